/-! THE HAND, and what is looked up -/
theorem hbU_end {pn : Nat → Int32} {i0 : Nat} (hi : i0 < 12) (hp : pn i0 = 0) : ∀ (k : Nat) (us : Nat → Int32) (h a : Nat), h < 12 → us i0 = nI a → a ≤ 3 → 12 * a + (i0 + 12 - h) % 12 < k → pn (hbU pn k (us, h)).2 = 0 ∧ (hbU pn k (us, h)).1 (hbU pn k (us, h)).2 = 0
  | 0, us, h, a, _, _, _, hk => absurd hk (by omega)
  | k + 1, us, h, a, hh, ha, h3, hk => by
    by_cases ht : pn h = 0 ∧ us h = 0
    · rw [hbU_take (s := (us, h)) ht]
      exact ht
    · rw [hbU_succ, if_neg ht]
      by_cases e : h = i0
      · subst e
        have hu : ¬ us h = 0 := fun g => ht ⟨hp, g⟩
        cases a with
        | zero => exact absurd (ha.trans nI_0) hu
        | succ a =>
          have hle : ¬ us h ≤ 0 := by rw [ha]; exact nI_nle (by omega) (by omega)
          refine hbU_end hi hp k _ (nxt h) a nxt_lt ?_ (by omega) ?_
          · show upd us h (if pn h = 0 then (if us h ≤ 0 then us h else us h - 1) else us h) h = nI a
            rw [pk_us, if_pos hp, if_neg hle, ha, nI_pred]
          · unfold nxt
            split <;> omega
      · refine hbU_end hi hp k _ (nxt h) a nxt_lt ?_ h3 ?_
        · show upd us h _ i0 = _
          rw [pk_un (fun g => e g.symm)]
          exact ha
        · unfold nxt
          split <;> omega
theorem hbU_same {pn pn' : Nat → Int32} (hp : ∀ i, i < 12 → pn' i = pn i) : ∀ (k : Nat) (us us' : Nat → Int32) (h : Nat), h < 12 → (∀ i, i < 12 → us' i = us i) → (hbU pn' k (us', h)).2 = (hbU pn k (us, h)).2 ∧ ∀ i, i < 12 → (hbU pn' k (us', h)).1 i = (hbU pn k (us, h)).1 i
  | 0, us, us', h, _, hu => ⟨rfl, hu⟩
  | k + 1, us, us', h, hh, hu => by
    rw [hbU_succ, hbU_succ]
    by_cases ht : pn h = 0 ∧ us h = 0
    · rw [if_pos (show pn' (us', h).2 = 0 ∧ (us', h).1 (us', h).2 = 0 from ⟨(hp h hh).trans ht.1, (hu h hh).trans ht.2⟩), if_pos (show pn (us, h).2 = 0 ∧ (us, h).1 (us, h).2 = 0 from ht)]
      exact ⟨rfl, hu⟩
    · rw [if_neg (show ¬ (pn' (us', h).2 = 0 ∧ (us', h).1 (us', h).2 = 0) from fun g => ht ⟨(hp h hh).symm.trans g.1, (hu h hh).symm.trans g.2⟩), if_neg (show ¬ (pn (us, h).2 = 0 ∧ (us, h).1 (us, h).2 = 0) from ht)]
      refine hbU_same hp k _ _ (nxt h) nxt_lt (fun i hi => ?_)
      show upd us' h (if pn' h = 0 then (if us' h ≤ 0 then us' h else us' h - 1) else us' h) i = upd us h (if pn h = 0 then (if us h ≤ 0 then us h else us h - 1) else us h) i
      rw [hp h hh, hu h hh]
      by_cases e : i = h
      · rw [e, pk_us, pk_us]
      · rw [pk_un e, pk_un e]
        exact hu i hi
theorem hbU_rng {pn : Nat → Int32} : ∀ (k : Nat) (us : Nat → Int32) (h : Nat), h < 12 → (∀ i, i < 12 → ∃ a, a ≤ 3 ∧ us i = nI a) → ∀ i, i < 12 → ∃ a, a ≤ 3 ∧ (hbU pn k (us, h)).1 i = nI a
  | 0, us, h, _, hu => hu
  | k + 1, us, h, hh, hu => by
    rw [hbU_succ]
    by_cases ht : pn h = 0 ∧ us h = 0
    · rw [if_pos (show pn (us, h).2 = 0 ∧ (us, h).1 (us, h).2 = 0 from ht)]
      exact hu
    · rw [if_neg (show ¬ (pn (us, h).2 = 0 ∧ (us, h).1 (us, h).2 = 0) from ht)]
      refine hbU_rng k _ (nxt h) nxt_lt (fun i hi => ?_)
      show ∃ a, a ≤ 3 ∧ upd us h (if pn h = 0 then (if us h ≤ 0 then us h else us h - 1) else us h) i = nI a
      by_cases e : i = h
      · subst e
        rw [pk_us]
        obtain ⟨a, h3, ha⟩ := hu i hi
        by_cases hp : pn i = 0
        · rw [if_pos hp]
          by_cases h0 : us i ≤ 0
          · rw [if_pos h0]; exact ⟨a, h3, ha⟩
          · rw [if_neg h0, ha]
            cases a with
            | zero => exact absurd (by rw [ha, nI_0]; decide) h0
            | succ a => exact ⟨a, by omega, nI_pred a⟩
        · rw [if_neg hp]; exact ⟨a, h3, ha⟩
      · rw [pk_un e]; exact hu i hi
theorem foM_none {pg : Nat → Int32} {x : Int32} : ∀ z : Nat, (∀ j, j < z → pg j ≠ x) → foM pg x z = -1
  | 0, _ => rfl
  | z + 1, h => by
    simp only [foM]
    rw [if_neg (h z (Nat.lt_succ_self z))]
    exact foM_none z (fun j hj => h j (by omega))
theorem foM_in {pg : Nat → Int32} {x : Int32} {j : Nat} (hx : pg j = x) : ∀ z : Nat, j < z → (∀ i, i < z → pg i = x → i = j) → foM pg x z = nI j
  | 0, h, _ => absurd h (by omega)
  | z + 1, h, hu => by
    simp only [foM]
    by_cases e : pg z = x
    · rw [if_pos e, hu z (Nat.lt_succ_self z) e]
    · rw [if_neg e]
      have : j ≠ z := fun g => e (g ▸ hx)
      exact foM_in hx z (by omega) (fun i hi => hu i (by omega))
theorem apM_1 {pg pn : Nat → Int32} : ∀ z : Nat, (∀ j, j < z → ¬ pg j < 0 ∧ ¬ pn j ≤ 0) → apM pg pn z = 1
  | 0, _ => rfl
  | z + 1, h => by
    simp only [apM]
    have hz := h z (Nat.lt_succ_self z)
    rw [apM_1 z (fun j hj => h j (by omega)), if_neg (by decide), if_neg hz.1, if_neg hz.2]
theorem apM_0 {pg pn : Nat → Int32} {j : Nat} (hj : pg j < 0 ∨ pn j ≤ 0) : ∀ z : Nat, j < z → apM pg pn z = 0
  | 0, h => absurd h (by omega)
  | z + 1, h => by
    simp only [apM]
    by_cases e : j = z
    · subst e
      split
      · rfl
      · rcases hj with g | g
        · rw [if_pos g]
        · split
          · rfl
          · first
            | rfl
            | rw [if_pos g]
    · rw [apM_0 hj z (by omega), if_pos rfl]
theorem cnM_cntP {pg mpg : Nat → Int32} : ∀ z : Nat, (∀ f, f < z → (mpg f < 0 ↔ pg f = -1)) → cnM mpg z = cntP pg z
  | 0, _ => rfl
  | z + 1, h => by
    have hz := h z (Nat.lt_succ_self z)
    have ih := cnM_cntP z (fun f hf => h f (by omega))
    simp only [cnM, cntP]
    rw [ih]
    by_cases e : pg z = -1
    · rw [if_pos (hz.mpr e)]
      simp [e]
    · rw [if_neg (fun g => e (hz.mp g))]
      simp [e]
/-- the charge does, or it runs out at a sector -/
theorem lf_or (lf : Int32) : lfOK lf ∨ ∃ mm, mm < 8 ∧ (∀ z, z < mm → ¬ lfA lf z = 0) ∧ lfA lf mm = 0 := by
  by_cases h : ∃ z, z < 8 ∧ lfA lf z = 0
  · obtain ⟨k, ⟨h1, h2⟩, h3⟩ := pk_least (fun z => z < 8 ∧ lfA lf z = 0) h
    exact Or.inr ⟨k, h1, fun z hz g => h3 z hz ⟨by omega, g⟩, h2⟩
  · exact Or.inl (fun z hz g => h ⟨z, hz, g⟩)
