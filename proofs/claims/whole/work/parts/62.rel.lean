/-! THE RELATION of desk and reference, piece by piece -/
def rT (pg pn us di mpg mpn mus mdi : Nat → Int32) (pgN : Nat → Nat) (c : Nat) : Prop := ∀ f, f < 12 → mpg f = pg f ∧ ((pg f = -1 ∧ pn f = 0 ∧ us f = 0 ∧ di f = 0) ∨ (pg f = nI (pgN f) ∧ pgN f < 192 ∧ mpn f = pn f ∧ mus f = us f ∧ mdi f = di f)) ∧ (∃ a, a ≤ c ∧ pn f = nI a) ∧ (∃ a, a ≤ 3 ∧ us f = nI a)
def rU (pg : Nat → Int32) : Prop := ∀ f g, f < 12 → g < 12 → pg f ≠ -1 → pg f = pg g → f = g
def rC (mcp mcb : Nat → Int32) (cpN cbN : Nat → Nat) (u : Nat) : Prop := ∀ e, 1 ≤ e → e ≤ u → mcp e = nI (cpN e) ∧ cpN e < 192 ∧ mcb e = nI (cbN e) ∧ cbN e < 512
def rS (mfm mto : Nat → Int32) (fmN toN : Nat → Nat) (u : Nat) : Prop := ∀ j, j < 1536 → mfm j = nI (fmN j) ∧ mto j = nI (toN j) ∧ fmN j ≤ toN j ∧ toN j ≤ u
def rP (mfs mls : Nat → Int32) (sN lN : Nat → Nat) (w : Nat) : Prop := ∀ p, p < 192 → mfs p = nI (sN p) ∧ mls p = nI (lN p) ∧ lN p ≤ sN p ∧ sN p ≤ w
def r3 (sN lN fmN toN : Nat → Nat) : Prop := ∀ p, p < 192 → sN p = lN p → ∀ s, s < 8 → fmN (8 * p + s) = fmN (8 * p) ∧ toN (8 * p + s) = toN (8 * p)
def r2 (pg di mbl mpl : Nat → Int32) (cpN cbN toN : Nat → Nat) (u : Nat) : Prop := ∀ p, p < 192 → (∀ f, f < 12 → pg f = nI p → di f = 0) → ∀ e, 1 ≤ e → e ≤ u → cpN e = p → (toN (8 * p + cbN e / 64) < e → mbl e ≠ 0) ∧ (toN (8 * p) < e → mpl e ≠ 0)
def pgV (mcp mcb mcv mbl : Nat → Int32) (x : Int32) (b k : Nat) : Nat → Int32 := fun i => valF mcp mcb mcv mbl x (nI i) b k
def rB (pg : Nat → Int32) (bt : Nat → Nat → Int32) (mcp mcb mcv mcl mbl mpl mfs mst mbs : Nat → Int32) (pgN bN : Nat → Nat) (u : Nat) : Prop := ∀ f, f < 12 → pg f ≠ -1 → mbs f = nI (bN f) ∧ bN f ≤ u ∧ mst f = mfs (pgN f) ∧ ∀ i, i < 512 → bt f i &&& 255 = gw (mst f) (mst f) (plcF mcp mcl mpl (pg f) (bN f) (u - bN f)) (pgV mcp mcb mcv mbl (pg f) (bN f) (u - bN f)) i
def rD (dk mcp mcb mcv mcl mbl mpl mfs mls : Nat → Int32) (fmN toN : Nat → Nat) : Prop := ∀ p, p < 192 → ∀ i, i < 512 → dk (p * 512 + i) &&& 255 = gw (mfs p) (mls p) (plcF mcp mcl mpl (nI p) (fmN (8 * p + i / 64)) (toN (8 * p + i / 64) - fmN (8 * p + i / 64))) (pgV mcp mcb mcv mbl (nI p) (fmN (8 * p + i / 64)) (toN (8 * p + i / 64) - fmN (8 * p + i / 64))) i
def rI (bt : Nat → Nat → Int32) (dk : Nat → Int32) : Prop := (∀ f, f < 12 → sb_Fit (bt f)) ∧ sb_Fit dk
/-! sectors written -/
def secN (f : Nat → Nat) (p v z : Nat) : Nat → Nat := fun j => if 8 * p ≤ j ∧ j < 8 * p + z then v else f j
def fsN (sN : Nat → Nat) (np mm : Nat) : Nat → Nat := fun p => if p = np ∧ 0 < mm then sN np + 1 else sN p
def lsN (sN lN : Nat → Nat) (np mm : Nat) : Nat → Nat := fun p => if p = np ∧ 8 ≤ mm then sN np + 1 else lN p
theorem secN_in {f : Nat → Nat} {p v z j : Nat} (h : 8 * p ≤ j ∧ j < 8 * p + z) : secN f p v z j = v := if_pos h
theorem secN_out {f : Nat → Nat} {p v z j : Nat} (h : ¬ (8 * p ≤ j ∧ j < 8 * p + z)) : secN f p v z j = f j := if_neg h
theorem rS_wr {mfm mto : Nat → Int32} {fmN toN : Nat → Nat} {u np b mm : Nat} (h : rS mfm mto fmN toN u) (hb : b ≤ u) : rS (secF mfm np (nI b) mm) (secF mto np (nI u) mm) (secN fmN np b mm) (secN toN np u mm) u := by
  intro j hj
  obtain ⟨h1, h2, h3, h4⟩ := h j hj
  unfold secF secN
  by_cases hc : 8 * np ≤ j ∧ j < 8 * np + mm
  · rw [if_pos hc, if_pos hc, if_pos hc, if_pos hc]
    exact ⟨rfl, rfl, hb, Nat.le_refl u⟩
  · rw [if_neg hc, if_neg hc, if_neg hc, if_neg hc]
    exact ⟨h1, h2, h3, h4⟩
theorem fsF_at {mfs : Nat → Int32} {sN : Nat → Nat} {np mm p : Nat} (h : mfs p = nI (sN p)) : fsF mfs np (nI (sN np + 1)) mm p = nI (fsN sN np mm p) := by
  unfold fsF fsN
  by_cases hm : mm = 0
  · subst hm
    rw [if_pos rfl, if_neg (fun g => absurd g.2 (by omega))]
    exact h
  · rw [if_neg hm]
    by_cases e : p = np
    · subst e
      rw [pk_us, if_pos ⟨rfl, by omega⟩]
    · rw [pk_un e, if_neg (fun g => e g.1)]
      exact h
theorem lsF_at {mls : Nat → Int32} {sN lN : Nat → Nat} {np mm p : Nat} (h : mls p = nI (lN p)) : lsF mls np (nI (sN np + 1)) mm p = nI (lsN sN lN np mm p) := by
  unfold lsF lsN
  by_cases hm : mm < 8
  · rw [if_pos hm, if_neg (fun g => absurd g.2 (by omega))]
    exact h
  · rw [if_neg hm]
    by_cases e : p = np
    · subst e
      rw [pk_us, if_pos ⟨rfl, by omega⟩]
    · rw [pk_un e, if_neg (fun g => e g.1)]
      exact h
theorem rP_wr {mfs mls : Nat → Int32} {sN lN : Nat → Nat} {w np mm : Nat} (h : rP mfs mls sN lN w) (hnp : np < 192) : rP (fsF mfs np (nI (sN np + 1)) mm) (lsF mls np (nI (sN np + 1)) mm) (fsN sN np mm) (lsN sN lN np mm) (w + 1) := by
  intro p hp
  obtain ⟨h1, h2, h3, h4⟩ := h p hp
  obtain ⟨-, -, g3, g4⟩ := h np hnp
  refine ⟨fsF_at h1, lsF_at h2, ?_, ?_⟩
  · unfold fsN lsN
    by_cases e : p = np
    · subst e
      by_cases h8 : 8 ≤ mm
      · rw [if_pos ⟨rfl, h8⟩, if_pos ⟨rfl, by omega⟩]
        exact Nat.le_refl _
      · rw [if_neg (fun g => h8 g.2)]
        split <;> omega
    · rw [if_neg (fun g => e g.1), if_neg (fun g => e g.1)]
      exact h3
  · unfold fsN
    split <;> omega
theorem r3_wr {sN lN fmN toN : Nat → Nat} {mfs mls : Nat → Int32} {w u np b mm : Nat} (h : r3 sN lN fmN toN) (hP : rP mfs mls sN lN w) (hm : mm ≤ 8) : r3 (fsN sN np mm) (lsN sN lN np mm) (secN fmN np b mm) (secN toN np u mm) := by
  intro p hp he s hs
  by_cases e : p = np
  · subst e
    have hl := (hP p hp).2.2.1
    rcases (show mm = 0 ∨ mm = 8 ∨ (0 < mm ∧ mm < 8) by omega) with h0 | h8 | ⟨h0, h8⟩
    · subst h0
      have e1 : sN p = lN p := by
        unfold fsN lsN at he
        rw [if_neg (fun g => absurd g.2 (by omega)), if_neg (fun g => absurd g.2 (by omega))] at he
        exact he
      rw [secN_out (by omega), secN_out (by omega), secN_out (by omega), secN_out (by omega)]
      exact h p hp e1 s hs
    · subst h8
      rw [secN_in (by omega), secN_in (by omega), secN_in (by omega), secN_in (by omega)]
      exact ⟨rfl, rfl⟩
    · exfalso
      unfold fsN lsN at he
      rw [if_pos ⟨rfl, h0⟩, if_neg (fun g => absurd g.2 (by omega))] at he
      omega
  · have e1 : sN p = lN p := by
      unfold fsN lsN at he
      rw [if_neg (fun g => e g.1), if_neg (fun g => e g.1)] at he
      exact he
    rw [secN_out (by omega), secN_out (by omega), secN_out (by omega), secN_out (by omega)]
    exact h p hp e1 s hs
theorem rD_wr {dk mcp mcb mcv mcl mbl mpl mfs mls g : Nat → Int32} {fmN toN sN lN : Nat → Nat} {u np b mm w : Nat} (h : rD dk mcp mcb mcv mcl mbl mpl mfs mls fmN toN) (hP : rP mfs mls sN lN w) (hm : mm ≤ 8) (hnp : np < 192)
    (hg : ∀ i, i < 512 → g i &&& 255 = gw (nI (sN np + 1)) (nI (sN np + 1)) (plcF mcp mcl mpl (nI np) b (u - b)) (pgV mcp mcb mcv mbl (nI np) b (u - b)) i) : rD (wrD dk g np mm) mcp mcb mcv mcl mbl mpl (fsF mfs np (nI (sN np + 1)) mm) (lsF mls np (nI (sN np + 1)) mm) (secN fmN np b mm) (secN toN np u mm) := by
  intro p hp i hi
  have hq := hP p hp
  by_cases e : p = np
  · subst e
    by_cases hc : i / 64 < mm
    · have hr : p * 512 ≤ p * 512 + i ∧ p * 512 + i < p * 512 + mm * 64 := ⟨by omega, by omega⟩
      have hs : 8 * p ≤ 8 * p + i / 64 ∧ 8 * p + i / 64 < 8 * p + mm := ⟨by omega, by omega⟩
      rw [wrD_at, if_pos hr, Nat.add_sub_cancel_left, secN_in hs, secN_in hs, hg i hi]
      refine gw_congr (fun _ => ?_) (fun h5 => ?_) (fun _ _ => rfl) (fun _ _ => rfl)
      · rw [fsF_at hq.1]
        unfold fsN
        rw [if_pos ⟨rfl, by omega⟩]
      · rw [lsF_at hq.2.1]
        unfold lsN
        rw [if_pos ⟨rfl, by omega⟩]
    · have hr : ¬ (p * 512 ≤ p * 512 + i ∧ p * 512 + i < p * 512 + mm * 64) := by omega
      have hs : ¬ (8 * p ≤ 8 * p + i / 64 ∧ 8 * p + i / 64 < 8 * p + mm) := by omega
      rw [wrD_at, if_neg hr, secN_out hs, secN_out hs, h p hp i hi]
      refine gw_congr (fun h5 => ?_) (fun h5 => ?_) (fun _ _ => rfl) (fun _ _ => rfl)
      · rw [fsF_at hq.1, hq.1]
        unfold fsN
        rw [if_neg (fun g => by omega)]
      · rw [lsF_at hq.2.1, hq.2.1]
        unfold lsN
        rw [if_neg (fun g => by omega)]
  · have hr : ¬ (np * 512 ≤ p * 512 + i ∧ p * 512 + i < np * 512 + mm * 64) := by omega
    have hs : ¬ (8 * np ≤ 8 * p + i / 64 ∧ 8 * p + i / 64 < 8 * np + mm) := by omega
    rw [wrD_at, if_neg hr, secN_out hs, secN_out hs, h p hp i hi]
    refine gw_congr (fun h5 => ?_) (fun h5 => ?_) (fun _ _ => rfl) (fun _ _ => rfl)
    · rw [fsF_at hq.1, hq.1]
      unfold fsN
      rw [if_neg (fun g => e g.1)]
    · rw [lsF_at hq.2.1, hq.2.1]
      unfold lsN
      rw [if_neg (fun g => e g.1)]
