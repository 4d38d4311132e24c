/-! THE DESK's WORLD: desk, drive, disk, log, frames; then twelve frames, then their bytes -/
def dw (h dr db lg fa : Nat) (fr fb : Nat → Nat) (ka : Nat → ClassId) (pg pn us di : Nat → Int32) (bt : Nat → Nat → Int32) (dk : Nat → Int32) (lf wn rd en fl hd : Int32) : va_W :=
  [(h, .inr (3, [.ref dr, .ref lg, .ref fa, .int hd])), (dr, .inr (0, [.ref db, .int lf, .int wn, .int rd])), (db, .inl (ka 0, 98304, .inl dk)), (lg, .inr (2, [.int en, .int fl])), (fa, .inl (ka 1, 12, .inr (.inr (.inr (.inr (fun i => some (fr i)))))))] ++
    (tk_row 12 fr (fun i => .inr (1, [.ref (fb i), .int (pg i), .int (pn i), .int (us i), .int (di i)])) ++ tk_row 12 fb (fun i => .inl (ka 0, 512, .inl (bt i))))
theorem upd_id (f : Nat → Int32) (i : Nat) : upd f i (f i) = f := by
  funext j
  by_cases h : j = i <;> simp [upd, h]
theorem va_up_id {α : Type} (f : Nat → α) (i : Nat) : va_up f i (f i) = f := by
  funext j
  by_cases h : j = i <;> simp [va_up, h]
section DW
variable {h dr db lg fa : Nat} {fr fb : Nat → Nat} {ka : Nat → ClassId} {pg pn us di : Nat → Int32} {bt : Nat → Nat → Int32} {dk : Nat → Int32} {lf wn rd en fl hd : Int32}
theorem dw_fr {i : Nat} (hi : i < 12) : (dw h dr db lg fa fr fb ka pg pn us di bt dk lf wn rd en fl hd)[5 + i]? = some (fr i, .inr (1, [.ref (fb i), .int (pg i), .int (pn i), .int (us i), .int (di i)])) := by
  unfold dw
  rw [List.getElem?_append_right (by simp), List.getElem?_append_left (by simp [tk_row_len]; omega)]
  simp only [List.length_cons, List.length_nil]
  rw [show 5 + i - (0 + 1 + 1 + 1 + 1 + 1) = i by omega]
  exact tk_row_get hi
theorem dw_fb {i : Nat} (hi : i < 12) : (dw h dr db lg fa fr fb ka pg pn us di bt dk lf wn rd en fl hd)[17 + i]? = some (fb i, .inl (ka 0, 512, .inl (bt i))) := by
  unfold dw
  rw [List.getElem?_append_right (by simp; omega), List.getElem?_append_right (by simp [tk_row_len]; omega)]
  simp only [List.length_cons, List.length_nil, tk_row_len]
  rw [show 17 + i - (0 + 1 + 1 + 1 + 1 + 1) - 12 = i by omega]
  exact tk_row_get hi
theorem dw_set_fr {i : Nat} (hi : i < 12) (a b c d : Int32) : (dw h dr db lg fa fr fb ka pg pn us di bt dk lf wn rd en fl hd).set (5 + i) (fr i, .inr (1, [.ref (fb i), .int a, .int b, .int c, .int d])) = dw h dr db lg fa fr fb ka (upd pg i a) (upd pn i b) (upd us i c) (upd di i d) bt dk lf wn rd en fl hd := by
  unfold dw
  rw [List.set_append_right _ _ (by simp), List.set_append_left _ _ (by simp [tk_row_len]; omega)]
  simp only [List.length_cons, List.length_nil]
  rw [show 5 + i - (0 + 1 + 1 + 1 + 1 + 1) = i by omega, tk_row_set hi]
  congr 2
  apply tk_row_congr
  intro j _
  by_cases hj : j = i
  · subst hj; simp [va_up, upd]
  · simp [va_up, upd, hj]
theorem dw_set_fb {i : Nat} (hi : i < 12) (f : Nat → Int32) : (dw h dr db lg fa fr fb ka pg pn us di bt dk lf wn rd en fl hd).set (17 + i) (fb i, .inl (ka 0, 512, .inl f)) = dw h dr db lg fa fr fb ka pg pn us di (va_up bt i f) dk lf wn rd en fl hd := by
  unfold dw
  rw [List.set_append_right _ _ (by simp; omega), List.set_append_right _ _ (by simp [tk_row_len]; omega)]
  simp only [List.length_cons, List.length_nil, tk_row_len]
  rw [show 17 + i - (0 + 1 + 1 + 1 + 1 + 1) - 12 = i by omega, tk_row_set hi]
  congr 2
  apply tk_row_congr
  intro j _
  by_cases hj : j = i
  · subst hj; simp [va_up]
  · simp [va_up, hj]
theorem dw_set_pu {i : Nat} (hi : i < 12) (b c : Int32) : (dw h dr db lg fa fr fb ka pg pn us di bt dk lf wn rd en fl hd).set (5 + i) (fr i, .inr (1, [.ref (fb i), .int (pg i), .int b, .int c, .int (di i)])) = dw h dr db lg fa fr fb ka pg (upd pn i b) (upd us i c) di bt dk lf wn rd en fl hd := by
  rw [dw_set_fr hi, upd_id, upd_id]
theorem dw_set_p {i : Nat} (hi : i < 12) (b : Int32) : (dw h dr db lg fa fr fb ka pg pn us di bt dk lf wn rd en fl hd).set (5 + i) (fr i, .inr (1, [.ref (fb i), .int (pg i), .int b, .int (us i), .int (di i)])) = dw h dr db lg fa fr fb ka pg (upd pn i b) us di bt dk lf wn rd en fl hd := by
  rw [dw_set_fr hi, upd_id, upd_id, upd_id]
theorem dw_set_u {i : Nat} (hi : i < 12) (b : Int32) : (dw h dr db lg fa fr fb ka pg pn us di bt dk lf wn rd en fl hd).set (5 + i) (fr i, .inr (1, [.ref (fb i), .int (pg i), .int (pn i), .int b, .int (di i)])) = dw h dr db lg fa fr fb ka pg pn (upd us i b) di bt dk lf wn rd en fl hd := by
  rw [dw_set_fr hi, upd_id, upd_id, upd_id]
theorem dw_set_d {i : Nat} (hi : i < 12) (b : Int32) : (dw h dr db lg fa fr fb ka pg pn us di bt dk lf wn rd en fl hd).set (5 + i) (fr i, .inr (1, [.ref (fb i), .int (pg i), .int (pn i), .int (us i), .int b])) = dw h dr db lg fa fr fb ka pg pn us (upd di i b) bt dk lf wn rd en fl hd := by
  rw [dw_set_fr hi, upd_id, upd_id, upd_id]
theorem dw_set_n {i : Nat} (hi : i < 12) : (dw h dr db lg fa fr fb ka pg pn us di bt dk lf wn rd en fl hd).set (5 + i) (fr i, .inr (1, [.ref (fb i), .int (pg i), .int (pn i), .int (us i), .int (di i)])) = dw h dr db lg fa fr fb ka pg pn us di bt dk lf wn rd en fl hd := by
  rw [dw_set_fr hi, upd_id, upd_id, upd_id, upd_id]
/-- the addresses alone say that the cells are apart -/
theorem dw_D {A : Nat → Prop} {pg' pn' us' di' : Nat → Int32} {bt' : Nat → Nat → Int32} {dk' : Nat → Int32} {lf' wn' rd' en' fl' hd' : Int32} (hD : va_D A (dw h dr db lg fa fr fb ka pg pn us di bt dk lf wn rd en fl hd)) : va_D A (dw h dr db lg fa fr fb ka pg' pn' us' di' bt' dk' lf' wn' rd' en' fl' hd') := by
  have key : ∀ (j : Nat) (q : Nat × va_E), (dw h dr db lg fa fr fb ka pg' pn' us' di' bt' dk' lf' wn' rd' en' fl' hd')[j]? = some q → ∃ e, (dw h dr db lg fa fr fb ka pg pn us di bt dk lf wn rd en fl hd)[j]? = some (q.1, e) := by
    intro j q hj
    by_cases h0 : j < 5
    · rcases (show j = 0 ∨ j = 1 ∨ j = 2 ∨ j = 3 ∨ j = 4 by omega) with rfl | rfl | rfl | rfl | rfl <;> cases hj <;> exact ⟨_, rfl⟩
    · by_cases h1 : j < 17
      · obtain ⟨i, rfl⟩ : ∃ i, j = 5 + i := ⟨j - 5, by omega⟩
        rw [dw_fr (by omega)] at hj
        cases hj
        exact ⟨_, dw_fr (by omega)⟩
      · have hl := (List.getElem?_eq_some_iff.mp hj).1
        have hz : (dw h dr db lg fa fr fb ka pg' pn' us' di' bt' dk' lf' wn' rd' en' fl' hd').length = 29 := by simp [dw, tk_row_len]
        obtain ⟨i, rfl⟩ : ∃ i, j = 17 + i := ⟨j - 17, by omega⟩
        rw [dw_fb (by omega)] at hj
        cases hj
        exact ⟨_, dw_fb (by omega)⟩
  refine ⟨fun i j x y hi hj hxy => ?_, fun k q hk => ?_⟩
  · obtain ⟨e1, h1⟩ := key i x hi
    obtain ⟨e2, h2⟩ := key j y hj
    exact hD.1 i j _ _ h1 h2 hxy
  · obtain ⟨e1, h1⟩ := key k q hk
    exact hD.2 k (q.1, e1) h1
theorem dw_A {sz : Nat} {pg' pn' us' di' : Nat → Int32} {bt' : Nat → Nat → Int32} {dk' : Nat → Int32} {lf' wn' rd' en' fl' hd' : Int32} {q : Nat} (hq : va_A (dw h dr db lg fa fr fb ka pg pn us di bt dk lf wn rd en fl hd) sz q) : va_A (dw h dr db lg fa fr fb ka pg' pn' us' di' bt' dk' lf' wn' rd' en' fl' hd') sz q := by
  rcases hq with ⟨j, e, hj⟩ | hq
  · left
    by_cases h0 : j < 5
    · rcases (show j = 0 ∨ j = 1 ∨ j = 2 ∨ j = 3 ∨ j = 4 by omega) with rfl | rfl | rfl | rfl | rfl <;> cases hj
      · exact ⟨0, _, rfl⟩
      · exact ⟨1, _, rfl⟩
      · exact ⟨2, _, rfl⟩
      · exact ⟨3, _, rfl⟩
      · exact ⟨4, _, rfl⟩
    · by_cases h1 : j < 17
      · obtain ⟨i, rfl⟩ : ∃ i, j = 5 + i := ⟨j - 5, by omega⟩
        rw [dw_fr (by omega)] at hj
        cases hj
        exact ⟨5 + i, _, dw_fr (by omega)⟩
      · have hl := (List.getElem?_eq_some_iff.mp hj).1
        have hz : (dw h dr db lg fa fr fb ka pg pn us di bt dk lf wn rd en fl hd).length = 29 := by simp [dw, tk_row_len]
        obtain ⟨i, rfl⟩ : ∃ i, j = 17 + i := ⟨j - 17, by omega⟩
        rw [dw_fb (by omega)] at hj
        cases hj
        exact ⟨17 + i, _, dw_fb (by omega)⟩
  · exact Or.inr hq
end DW
