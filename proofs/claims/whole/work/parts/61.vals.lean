/-! VALUES: what the changes say -/
theorem valF_congr {cp cb cv bl cp' cb' cv' bl' : Nat → Int32} {x y : Int32} {b : Nat} : ∀ k : Nat, (∀ e, b < e → e ≤ b + k → cp' e = cp e ∧ cb' e = cb e ∧ cv' e = cv e ∧ (cp e = x → cb e = y → (bl' e = 0 ↔ bl e = 0))) → valF cp' cb' cv' bl' x y b k = valF cp cb cv bl x y b k
  | 0, _ => rfl
  | k + 1, h => by
    have ih := valF_congr (cp := cp) (cb := cb) (cv := cv) (bl := bl) (cp' := cp') (cb' := cb') (cv' := cv') (bl' := bl') (x := x) (y := y) (b := b) k (fun e h1 h2 => h e h1 (by omega))
    obtain ⟨h1, h2, h3, h4⟩ := h (b + 1 + k) (by omega) (by omega)
    simp only [valF]
    rw [ih, h1, h2, h3]
    by_cases ex : cp (b + 1 + k) = x
    · by_cases ey : cb (b + 1 + k) = y
      · by_cases eb : bl (b + 1 + k) = 0
        · rw [if_pos ((h4 ex ey).mpr eb), if_pos eb]
        · rw [if_neg (fun g => eb ((h4 ex ey).mp g)), if_neg eb]
      · rw [if_neg ey, if_neg ey]
    · rw [if_neg ex, if_neg ex]
theorem plcF_congr {cp cl pl cp' cl' pl' : Nat → Int32} {x : Int32} {b : Nat} : ∀ k : Nat, (∀ e, b < e → e ≤ b + k → cp' e = cp e ∧ cl' e = cl e ∧ (cp e = x → (pl' e = 0 ↔ pl e = 0))) → plcF cp' cl' pl' x b k = plcF cp cl pl x b k
  | 0, _ => rfl
  | k + 1, h => by
    have ih := plcF_congr (cp := cp) (cl := cl) (pl := pl) (cp' := cp') (cl' := cl') (pl' := pl') (x := x) (b := b) k (fun e h1 h2 => h e h1 (by omega))
    obtain ⟨h1, h2, h4⟩ := h (b + 1 + k) (by omega) (by omega)
    simp only [plcF]
    rw [ih, h1, h2]
    by_cases ex : cp (b + 1 + k) = x
    · by_cases eb : pl (b + 1 + k) = 0
      · rw [if_pos ((h4 ex).mpr eb), if_pos eb]
      · rw [if_neg (fun g => eb ((h4 ex).mp g)), if_neg eb]
    · rw [if_neg ex, if_neg ex]
theorem valF_skip {cp cb cv bl : Nat → Int32} {x y : Int32} {b k : Nat} : ∀ j : Nat, (∀ e, b + k < e → e ≤ b + k + j → cp e = x → cb e = y → bl e ≠ 0) → valF cp cb cv bl x y b (k + j) = valF cp cb cv bl x y b k
  | 0, _ => rfl
  | j + 1, h => by
    have ih := valF_skip (cp := cp) (cb := cb) (cv := cv) (bl := bl) (x := x) (y := y) (b := b) (k := k) j (fun e h1 h2 => h e h1 (by omega))
    have h1 := h (b + 1 + (k + j)) (by omega) (by omega)
    rw [← Nat.add_assoc]
    simp only [valF]
    rw [ih]
    by_cases ex : cp (b + 1 + (k + j)) = x
    · by_cases ey : cb (b + 1 + (k + j)) = y
      · rw [if_pos ex, if_pos ey, if_neg (h1 ex ey)]
      · rw [if_pos ex, if_neg ey]
    · rw [if_neg ex]
theorem plcF_skip {cp cl pl : Nat → Int32} {x : Int32} {b k : Nat} : ∀ j : Nat, (∀ e, b + k < e → e ≤ b + k + j → cp e = x → pl e ≠ 0) → plcF cp cl pl x b (k + j) = plcF cp cl pl x b k
  | 0, _ => rfl
  | j + 1, h => by
    have ih := plcF_skip (cp := cp) (cl := cl) (pl := pl) (x := x) (b := b) (k := k) j (fun e h1 h2 => h e h1 (by omega))
    have h1 := h (b + 1 + (k + j)) (by omega) (by omega)
    rw [← Nat.add_assoc]
    simp only [plcF]
    rw [ih]
    by_cases ex : cp (b + 1 + (k + j)) = x
    · rw [if_pos ex, if_neg (h1 ex)]
    · rw [if_neg ex]
/-- up to a later end: what came between is lost, or of another page or byte -/
theorem valF_to {cp cb cv bl : Nat → Int32} {x y : Int32} {b t u : Nat} (hb : b ≤ t) (ht : t ≤ u) (h : ∀ e, t < e → e ≤ u → cp e = x → cb e = y → bl e ≠ 0) : valF cp cb cv bl x y b (u - b) = valF cp cb cv bl x y b (t - b) := by
  rw [show u - b = (t - b) + (u - t) by omega]
  exact valF_skip (u - t) (fun e h1 h2 => h e (by omega) (by omega))
theorem plcF_to {cp cl pl : Nat → Int32} {x : Int32} {b t u : Nat} (hb : b ≤ t) (ht : t ≤ u) (h : ∀ e, t < e → e ≤ u → cp e = x → pl e ≠ 0) : plcF cp cl pl x b (u - b) = plcF cp cl pl x b (t - b) := by
  rw [show u - b = (t - b) + (u - t) by omega]
  exact plcF_skip (u - t) (fun e h1 h2 => h e (by omega) (by omega))
/-- a new change -/
theorem valF_new {cp cb cv bl : Nat → Int32} {x y p k v : Int32} {b u : Nat} (hb : b ≤ u) : valF (upd cp (u + 1) p) (upd cb (u + 1) k) (upd cv (u + 1) v) (upd bl (u + 1) 0) x y b (u + 1 - b) = if p = x ∧ k = y then v else valF cp cb cv bl x y b (u - b) := by
  have e0 : valF (upd cp (u + 1) p) (upd cb (u + 1) k) (upd cv (u + 1) v) (upd bl (u + 1) 0) x y b (u - b) = valF cp cb cv bl x y b (u - b) :=
    valF_congr _ (fun e h1 h2 => by
      have ne : e ≠ u + 1 := by omega
      rw [pk_un ne, pk_un ne, pk_un ne, pk_un ne]
      exact ⟨rfl, rfl, rfl, fun _ _ => Iff.rfl⟩)
  rw [show u + 1 - b = (u - b) + 1 by omega]
  simp only [valF]
  rw [show b + 1 + (u - b) = u + 1 by omega, pk_us, pk_us, pk_us, pk_us, e0]
  by_cases ep : p = x
  · by_cases ek : k = y
    · rw [if_pos ep, if_pos ek, if_pos rfl, if_pos ⟨ep, ek⟩]
    · rw [if_pos ep, if_neg ek, if_neg (fun g => ek g.2)]
  · rw [if_neg ep, if_neg (fun g => ep g.1)]
theorem plcF_new {cp cl pl : Nat → Int32} {x p v : Int32} {b u : Nat} (hb : b ≤ u) : plcF (upd cp (u + 1) p) (upd cl (u + 1) v) (upd pl (u + 1) 0) x b (u + 1 - b) = if p = x then v else plcF cp cl pl x b (u - b) := by
  have e0 : plcF (upd cp (u + 1) p) (upd cl (u + 1) v) (upd pl (u + 1) 0) x b (u - b) = plcF cp cl pl x b (u - b) :=
    plcF_congr _ (fun e h1 h2 => by
      have ne : e ≠ u + 1 := by omega
      rw [pk_un ne, pk_un ne, pk_un ne]
      exact ⟨rfl, rfl, fun _ => Iff.rfl⟩)
  rw [show u + 1 - b = (u - b) + 1 by omega]
  simp only [plcF]
  rw [show b + 1 + (u - b) = u + 1 by omega, pk_us, pk_us, pk_us, e0]
  by_cases ep : p = x
  · rw [if_pos ep, if_pos rfl, if_pos ep]
  · rw [if_neg ep, if_neg ep]
theorem gw_congr {sF sL pl sF' sL' pl' : Int32} {V V' : Nat → Int32} {i : Nat} (h1 : i < 2 → sF' = sF) (h2 : 509 < i → sL' = sL) (h3 : 2 ≤ i → i < 6 → pl' = pl) (h4 : 6 ≤ i → i ≤ 509 → V' i = V i) : gw sF' sL' pl' V' i = gw sF sL pl V i := by
  unfold gw
  by_cases a1 : i < 2
  · rw [if_pos a1, if_pos a1, h1 a1]
  rw [if_neg a1, if_neg a1]
  by_cases a2 : 509 < i
  · rw [if_pos a2, if_pos a2, h2 a2]
  rw [if_neg a2, if_neg a2]
  by_cases a3 : i < 6
  · rw [if_pos a3, if_pos a3, h3 (by omega) a3]
  rw [if_neg a3, if_neg a3, h4 (by omega) (by omega)]
/-- the disk behind z sectors -/
theorem wrD_at (dk g : Nat → Int32) (n : Nat) : ∀ (z m : Nat), wrD dk g n z m = if n * 512 ≤ m ∧ m < n * 512 + z * 64 then g (m - n * 512) else dk m
  | 0, m => by rw [if_neg (by omega)]; rfl
  | z + 1, m => by
    show va_cpy g (wrD dk g n z) (z * 64) (n * 512 + z * 64) 64 m = _
    by_cases h : n * 512 + z * 64 ≤ m ∧ m < n * 512 + z * 64 + 64
    · have h1 : n * 512 ≤ m ∧ m < n * 512 + (z + 1) * 64 := ⟨by omega, by omega⟩
      rw [pk_cpy_in h.1 h.2, if_pos h1]
      congr 1
      omega
    · have h0 : m < n * 512 + z * 64 ∨ n * 512 + z * 64 + 64 ≤ m := by omega
      rw [pk_cpy_out h0, wrD_at dk g n z m]
      by_cases h2 : n * 512 ≤ m ∧ m < n * 512 + z * 64
      · have h1 : n * 512 ≤ m ∧ m < n * 512 + (z + 1) * 64 := ⟨by omega, by omega⟩
        rw [if_pos h2, if_pos h1]
      · have h1 : ¬ (n * 512 ≤ m ∧ m < n * 512 + (z + 1) * 64) := by
          rintro ⟨g1, g2⟩
          rcases h0 with h0 | h0
          · exact h2 ⟨g1, h0⟩
          · rw [Nat.succ_mul] at g2
            exact absurd g2 (by omega)
        rw [if_neg h2, if_neg h1]
theorem fit_wrD {dk g : Nat → Int32} {n z : Nat} (h1 : sb_Fit dk) (h2 : sb_Fit g) : sb_Fit (wrD dk g n z) := by
  intro j
  rw [wrD_at]
  split
  · exact h2 _
  · exact h1 _
theorem fit_cpy {f g : Nat → Int32} {a b n : Nat} (h1 : sb_Fit f) (h2 : sb_Fit g) : sb_Fit (va_cpy f g a b n) := by
  intro j
  unfold va_cpy
  split
  · exact h1 _
  · exact h2 _
/-- the charge: the same on both sides, until it is used up -/
def lfG (lf : Int32) : Prop := lf = -1 ∨ ∃ n : Nat, n < 1000 ∧ lf = nI n
theorem lfG_step {lf : Int32} (h : lfG lf) : ∀ z : Nat, lfG (lfA lf z) ∧ mlA lf z = lfA lf z
  | 0 => ⟨h, rfl⟩
  | z + 1 => by
    obtain ⟨h1, h2⟩ := lfG_step h z
    simp only [lfA, mlA]
    rw [h2]
    rcases h1 with e | ⟨n, hn, e⟩
    · rw [e]
      exact ⟨Or.inl (by decide), by decide⟩
    · rw [e]
      cases n with
      | zero => exact ⟨Or.inr ⟨0, by omega, by decide⟩, by decide⟩
      | succ n =>
        have a1 : ¬ nI (n + 1) = 0 := nI_ne0 (by omega) (by omega)
        have a2 : ¬ nI (n + 1) = -1 := fun g => absurd (g ▸ nI_pos' (n := n + 1) (by omega) : (0 : Int32) ≤ -1) (by decide)
        have a3 : ¬ nI (n + 1) ≤ 0 := nI_nle (by omega) (by omega)
        rw [if_neg a1, if_neg a2, if_neg a3, nI_pred]
        exact ⟨Or.inr ⟨n, by omega, rfl⟩, rfl⟩
