/-! ROWS OF CELLS: n cells at the addresses a 0, a 1, ..; one cell of a world set anew behind a call -/
def tk_row (n : Nat) (a : Nat → Nat) (E : Nat → va_E) : va_W := (List.range n).map (fun i => (a i, E i))
theorem tk_row_len {n : Nat} {a : Nat → Nat} {E : Nat → va_E} : (tk_row n a E).length = n := by simp [tk_row]
theorem tk_row_get {n i : Nat} {a : Nat → Nat} {E : Nat → va_E} (h : i < n) : (tk_row n a E)[i]? = some (a i, E i) := by
  simp only [tk_row, List.getElem?_map, List.getElem?_range h]
  rfl
theorem tk_row_out {n i : Nat} {a : Nat → Nat} {E : Nat → va_E} (h : n ≤ i) : (tk_row n a E)[i]? = none := List.getElem?_eq_none (by rw [tk_row_len]; exact h)
theorem tk_row_set {n i : Nat} {a : Nat → Nat} {E : Nat → va_E} {e : va_E} (h : i < n) : (tk_row n a E).set i (a i, e) = tk_row n a (va_up E i e) := by
  apply List.ext_getElem?
  intro j
  by_cases hj : j = i
  · subst hj
    rw [List.getElem?_set_self (by rw [tk_row_len]; exact h), tk_row_get h, va_up_self]
  · rw [List.getElem?_set_ne (Ne.symm hj)]
    by_cases hn : j < n
    · rw [tk_row_get hn, tk_row_get hn, va_up_ne _ _ hj]
    · rw [tk_row_out (by omega), tk_row_out (by omega)]
theorem tk_row_congr {n : Nat} {a : Nat → Nat} {E E' : Nat → va_E} (h : ∀ i, i < n → E i = E' i) : tk_row n a E = tk_row n a E' := by
  unfold tk_row
  apply List.map_congr_left
  intro i hi
  rw [h i (List.mem_range.mp hi)]
/-- one cell out of a world -/
theorem tk_one {D : va_G} {cl : List vw_C} {ws : va_W} {H : Heap} {k : Nat} {q : Nat × va_E} (h : va_P D cl ws H) (hk : ws[k]? = some q) : va_P D cl [q] H := by
  intro j x hj
  have hz : j < 1 := (List.getElem?_eq_some_iff.mp hj).1
  rw [show j = 0 by omega] at hj
  cases hj
  exact h k q hk
theorem tk_two {D : va_G} {cl : List vw_C} {ws : va_W} {H : Heap} {k k' : Nat} {q q' : Nat × va_E} (h : va_P D cl ws H) (hk : ws[k]? = some q) (hk' : ws[k']? = some q') : va_P D cl [q, q'] H := by
  intro j x hj
  have hz : j < 2 := (List.getElem?_eq_some_iff.mp hj).1
  rcases (show j = 0 ∨ j = 1 by omega) with rfl | rfl
  · cases hj; exact h k q hk
  · cases hj; exact h k' q' hk'
theorem tk_three {D : va_G} {cl : List vw_C} {ws : va_W} {H : Heap} {k k' k2 : Nat} {q q' q2 : Nat × va_E} (h : va_P D cl ws H) (hk : ws[k]? = some q) (hk' : ws[k']? = some q') (hk2 : ws[k2]? = some q2) : va_P D cl [q, q', q2] H := by
  intro j x hj
  have hz : j < 3 := (List.getElem?_eq_some_iff.mp hj).1
  rcases (show j = 0 ∨ j = 1 ∨ j = 2 by omega) with rfl | rfl | rfl
  · cases hj; exact h k q hk
  · cases hj; exact h k' q' hk'
  · cases hj; exact h k2 q2 hk2
theorem tk_dtwo {A : Nat → Prop} {ws : va_W} {k k' : Nat} {q q' : Nat × va_E} (h : va_D A ws) (hk : ws[k]? = some q) (hk' : ws[k']? = some q') (hne : k ≠ k') : va_D (fun _ => True) [q, q'] := by
  have hab : q.1 ≠ q'.1 := fun z => hne (h.1 k k' q q' hk hk' z)
  refine ⟨fun i j x y hi hj hxy => ?_, fun _ _ _ => trivial⟩
  have h1 : i < 2 := (List.getElem?_eq_some_iff.mp hi).1
  have h2 : j < 2 := (List.getElem?_eq_some_iff.mp hj).1
  rcases (show i = 0 ∨ i = 1 by omega) with rfl | rfl <;> rcases (show j = 0 ∨ j = 1 by omega) with rfl | rfl <;> cases hi <;> cases hj
  · rfl
  · exact absurd hxy hab
  · exact absurd hxy.symm hab
  · rfl
theorem tk_done {q : Nat × va_E} : va_D (fun _ => True) [q] := by
  refine ⟨fun i j x y hi hj hxy => ?_, fun _ _ _ => trivial⟩
  have h1 : i < 1 := (List.getElem?_eq_some_iff.mp hi).1
  have h2 : j < 1 := (List.getElem?_eq_some_iff.mp hj).1
  omega
theorem tk_dthree {A : Nat → Prop} {ws : va_W} {k k' k2 : Nat} {q q' q2 : Nat × va_E} (h : va_D A ws) (hk : ws[k]? = some q) (hk' : ws[k']? = some q') (hk2 : ws[k2]? = some q2) (h1 : k ≠ k') (h2 : k ≠ k2) (h3 : k' ≠ k2) : va_D (fun _ => True) [q, q', q2] := by
  have hab : q.1 ≠ q'.1 := fun z => h1 (h.1 k k' q q' hk hk' z)
  have hac : q.1 ≠ q2.1 := fun z => h2 (h.1 k k2 q q2 hk hk2 z)
  have hbc : q'.1 ≠ q2.1 := fun z => h3 (h.1 k' k2 q' q2 hk' hk2 z)
  refine ⟨fun i j x y hi hj hxy => ?_, fun _ _ _ => trivial⟩
  have g1 : i < 3 := (List.getElem?_eq_some_iff.mp hi).1
  have g2 : j < 3 := (List.getElem?_eq_some_iff.mp hj).1
  rcases (show i = 0 ∨ i = 1 ∨ i = 2 by omega) with rfl | rfl | rfl <;> rcases (show j = 0 ∨ j = 1 ∨ j = 2 by omega) with rfl | rfl | rfl <;> cases hi <;> cases hj
  · rfl
  · exact absurd hxy hab
  · exact absurd hxy hac
  · exact absurd hxy.symm hab
  · rfl
  · exact absurd hxy hbc
  · exact absurd hxy.symm hac
  · exact absurd hxy.symm hbc
  · rfl
/-- the cells that a callee had -/
theorem tk_free {A0 : Nat → Prop} {ws wc : va_W} {H0 H : Heap} {locs : List Loc} (hD : va_D A0 ws) (hS : va_S A0 H0 H locs) (hA : ∀ q, H0.size ≤ q → A0 q) (hC : ∀ x ∈ wc, ∃ k : Nat, ws[k]? = some x) : ∀ q, va_A wc H.size q → A0 q := by
  intro q h
  rcases h with ⟨k, e, h⟩ | h
  · obtain ⟨j, hj⟩ := hC (q, e) (List.mem_of_getElem? h)
    exact hD.2 j (q, e) hj
  · exact hA q (Nat.le_trans hS.1 h)
/-- behind a call that had one cell of the world -/
theorem tk_join1 {A0 : Nat → Prop} {D : va_G} {cl : List vw_C} {ws : va_W} {a : Nat} {e e' : va_E} {H H1 : Heap} {k : Nat} (hP : va_P D cl ws H) (hD : va_D A0 ws) (hk : ws[k]? = some (a, e))
    (ho : ∀ q : Nat, q < H.size → ¬ va_A [(a, e)] H.size q → H1[q]? = H[q]?) (hP1 : va_P D cl [(a, e')] H1) : va_P D cl (ws.set k (a, e')) H1 ∧ va_D A0 (ws.set k (a, e')) := by
  have hl := (List.getElem?_eq_some_iff.mp hk).1
  refine ⟨fun j q hj => ?_, hD.set hk⟩
  by_cases hjk : j = k
  · subst hjk
    rw [List.getElem?_set_self hl] at hj
    cases hj
    exact hP1 0 _ rfl
  · rw [List.getElem?_set_ne (Ne.symm hjk)] at hj
    have hlt := (hP j q hj).lt
    refine (hP j q hj).kept (ho q.1 hlt ?_)
    rintro (⟨i, x, hi⟩ | h)
    · have hz : i < 1 := (List.getElem?_eq_some_iff.mp hi).1
      rw [show i = 0 by omega] at hi
      cases hi
      exact hjk (hD.1 j k q (q.1, e) hj hk rfl)
    · omega
/-- behind a call that had two cells of the world -/
theorem tk_join2 {A0 : Nat → Prop} {D : va_G} {cl : List vw_C} {ws : va_W} {a b : Nat} {e e' f f' : va_E} {H H1 : Heap} {k k' : Nat} (hP : va_P D cl ws H) (hD : va_D A0 ws) (hk : ws[k]? = some (a, e)) (hk' : ws[k']? = some (b, f)) (hne : k ≠ k')
    (ho : ∀ q : Nat, q < H.size → ¬ va_A [(a, e), (b, f)] H.size q → H1[q]? = H[q]?) (hP1 : va_P D cl [(a, e'), (b, f')] H1) : va_P D cl ((ws.set k (a, e')).set k' (b, f')) H1 ∧ va_D A0 ((ws.set k (a, e')).set k' (b, f')) := by
  have hl := (List.getElem?_eq_some_iff.mp hk).1
  have hl' := (List.getElem?_eq_some_iff.mp hk').1
  have hk2 : (ws.set k (a, e'))[k']? = some (b, f) := by rw [List.getElem?_set_ne hne]; exact hk'
  refine ⟨fun j q hj => ?_, (hD.set hk).set hk2⟩
  by_cases hjk' : j = k'
  · subst hjk'
    rw [List.getElem?_set_self (by rw [List.length_set]; exact hl')] at hj
    cases hj
    exact hP1 1 _ rfl
  · rw [List.getElem?_set_ne (Ne.symm hjk')] at hj
    by_cases hjk : j = k
    · subst hjk
      rw [List.getElem?_set_self hl] at hj
      cases hj
      exact hP1 0 _ rfl
    · rw [List.getElem?_set_ne (Ne.symm hjk)] at hj
      have hlt := (hP j q hj).lt
      refine (hP j q hj).kept (ho q.1 hlt ?_)
      rintro (⟨i, x, hi⟩ | h)
      · have hz : i < 2 := (List.getElem?_eq_some_iff.mp hi).1
        rcases (show i = 0 ∨ i = 1 by omega) with rfl | rfl
        · cases hi
          exact hjk (hD.1 j k q (q.1, e) hj hk rfl)
        · cases hi
          exact hjk' (hD.1 j k' q (q.1, f) hj hk' rfl)
      · omega
