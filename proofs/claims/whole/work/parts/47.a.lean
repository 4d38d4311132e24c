theorem dwrt_eq (pgN : Nat → Nat) (X : DS) (i : Nat) : dwrt pgN X i = (upd X.1 i 0, va_up X.2.1 i (psB (X.2.1 i) (tb2 (X.2.1 i) 0 + 1)), wrD X.2.2.1 ((va_up X.2.1 i (psB (X.2.1 i) (tb2 (X.2.1 i) 0 + 1))) i) (pgN i) 8, lfA X.2.2.2.1 8, X.2.2.2.2.1 + nI 8, (if X.2.2.2.2.2.1 < plB (X.2.1 i) then plB (X.2.1 i) else X.2.2.2.2.2.1), (if X.2.2.2.2.2.1 < plB (X.2.1 i) then X.2.2.2.2.2.2 + 1 else X.2.2.2.2.2.2)) := by unfold dwrt; exact Eq.refl _
/-- which frame has which page -/
def foR (pg di : Nat → Int32) (pgN fo : Nat → Nat) : Prop := (∀ p, p < 192 → fo p < 12 → pg (fo p) = nI p) ∧ ∀ f, f < 12 → ¬ di f = 0 → pg f = nI (pgN f) ∧ pgN f < 192 ∧ fo (pgN f) = f
section SWD
variable {pg : Nat → Int32} {pgN fo : Nat → Nat} {X : DS}
theorem sw_ge (hf : foR pg X.1 pgN fo) (p : Nat) : ∀ f, f < 12 → ¬ (swG actS (dwrt pgN) fo X p).1.1 f = 0 → p ≤ pgN f ∧ ¬ X.1 f = 0 := by
  refine swG_indp (fun (p : Nat) (Z : DS) (_ : Nat) => ∀ f, f < 12 → ¬ Z.1 f = 0 → p ≤ pgN f ∧ ¬ X.1 f = 0) (fun f _ h => ⟨Nat.zero_le _, h⟩) (fun p Y c h1 h2 ih f hf12 hd => ?_) (fun p Y c h ih f hf12 hd => ?_) p
  · have e : f ≠ fo p := fun e => hd (by show upd Y.1 (fo p) 0 f = 0; rw [e]; exact pk_us)
    have g := ih f hf12 (fun g => hd ((pk_un e).trans g))
    refine ⟨?_, g.2⟩
    rcases Nat.lt_or_ge p (pgN f) with h | h
    · exact h
    · exact absurd (by rw [show p = pgN f by omega]; exact (hf.2 f hf12 g.2).2.2.symm) e
  · have g := ih f hf12 hd
    refine ⟨?_, g.2⟩
    rcases Nat.lt_or_ge p (pgN f) with h9 | h9
    · exact h9
    · have e : fo p = f := by rw [show p = pgN f by omega]; exact (hf.2 f hf12 g.2).2.2
      exact absurd ⟨e ▸ hf12, decide_eq_true (by rw [e]; exact hd)⟩ h
theorem sw_dec {p j f : Nat} (h : ¬ (swG actS (dwrt pgN) fo X (p + j)).1.1 f = 0) : ¬ (swG actS (dwrt pgN) fo X p).1.1 f = 0 := by
  induction j with
  | zero => exact h
  | succ j ih =>
    apply ih
    intro g
    apply h
    rw [← Nat.add_assoc]
    by_cases h2 : fo (p + j) < 12 ∧ actS (swG actS (dwrt pgN) fo X (p + j)).1 (fo (p + j)) = true
    · rw [swG_yes h2.1 h2.2]
      show upd _ _ 0 f = 0
      by_cases e : f = fo (p + j)
      · rw [e]; exact pk_us
      · rw [pk_un e]; exact g
    · rw [swG_no h2]; exact g
theorem sw_at {p i : Nat} (hf : foR pg X.1 pgN fo) (hi : i < 12) (hd : ¬ (swG actS (dwrt pgN) fo X p).1.1 i = 0) (hm : ∀ j, j < 12 → ¬ (swG actS (dwrt pgN) fo X p).1.1 j = 0 → pg i ≤ pg j) : swG actS (dwrt pgN) fo X (pgN i) = swG actS (dwrt pgN) fo X p := by
  have g := sw_ge hf p i hi hd
  have g2 := hf.2 i hi g.2
  have h := swG_skip (act := actS) (wr := dwrt pgN) (fo := fo) (X := X) (p := p) (j := pgN i - p) (fun r h1 h2 h3 => by
    have h4 := hm (fo r) h3.1 (of_decide_eq_true h3.2)
    rw [g2.1, hf.1 r (by omega) h3.1] at h4
    have := (nI_leI (by omega) (by omega)).mp h4
    omega)
  rw [show p + (pgN i - p) = pgN i by omega] at h
  exact h
theorem sw_next {p i : Nat} (hf : foR pg X.1 pgN fo) (hi : i < 12) (hd : ¬ (swG actS (dwrt pgN) fo X p).1.1 i = 0) (hm : ∀ j, j < 12 → ¬ (swG actS (dwrt pgN) fo X p).1.1 j = 0 → pg i ≤ pg j) : swG actS (dwrt pgN) fo X (pgN i + 1) = (dwrt pgN (swG actS (dwrt pgN) fo X p).1 i, (swG actS (dwrt pgN) fo X p).2 + 1) := by
  have g := sw_ge hf p i hi hd
  have e := sw_at hf hi hd hm
  have g2 := (hf.2 i hi g.2).2.2
  rw [swG_yes (by rw [g2]; exact hi) (by rw [g2, e]; exact decide_eq_true hd), g2, e]
theorem sw_end {p : Nat} (hp : p ≤ 192) (hz : ∀ i, i < 12 → (swG actS (dwrt pgN) fo X p).1.1 i = 0) : swG actS (dwrt pgN) fo X 192 = swG actS (dwrt pgN) fo X p := by
  have h := swG_skip (act := actS) (wr := dwrt pgN) (fo := fo) (X := X) (p := p) (j := 192 - p) (fun r h1 h2 h3 => of_decide_eq_true h3.2 (hz _ h3.1))
  rw [show p + (192 - p) = 192 by omega] at h
  exact h
theorem sw_cnt (p : Nat) : (swG actS (dwrt pgN) fo X p).2 + cntD (swG actS (dwrt pgN) fo X p).1.1 12 ≤ 12 := by
  refine swG_ind (fun (Z : DS) (c : Nat) => c + cntD Z.1 12 ≤ 12) (by have := cntD_le X.1 12; omega) (fun Y c p h1 h2 ih => ?_) p
  have h := cntD_up (f := fo p) (of_decide_eq_true h2) 12
  rw [if_pos h1] at h
  show c + 1 + cntD (upd Y.1 (fo p) 0) 12 ≤ 12
  omega
end SWD
theorem dsI_0 {X : DS} (hF : ∀ f, f < 12 → sb_Fit (X.2.1 f)) : dsI X.1 X := fun f hf => ⟨fun h => h, hF f hf⟩
theorem cl_dsI {pn : Nat → Int32} {pgN : Nat → Nat} {n q : Nat} {X : DS} (hF : ∀ f, f < 12 → sb_Fit (X.2.1 f)) (k : Nat) : dsI X.1 (clG (actC pn) (dwrt pgN) n q X k).1 :=
  clG_ind (act := actC pn) (wr := dwrt pgN) (n := n) (q := q) (X := X) (fun (Z : DS) (_ : Nat) => dsI X.1 Z) (dsI_0 hF) (fun Y c f hf _ _ h => dsI_wr (pgN := pgN) (X := Y) (i := f) h hf) k
theorem sw_dsI {fo pgN : Nat → Nat} {X : DS} (hF : ∀ f, f < 12 → sb_Fit (X.2.1 f)) (p : Nat) : dsI X.1 (swG actS (dwrt pgN) fo X p).1 :=
  swG_ind (act := actS) (wr := dwrt pgN) (fo := fo) (X := X) (fun (Z : DS) (_ : Nat) => dsI X.1 Z) (dsI_0 hF) (fun Y c p hf _ h => dsI_wr (pgN := pgN) (X := Y) (i := fo p) h hf) p
