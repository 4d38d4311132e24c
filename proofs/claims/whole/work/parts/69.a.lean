/-! CLEAN AND SWEEP ON BOTH SIDES -/
def RS (pg pn us : Nat → Int32) (rd hd mnw : Int32) (mcp mcb mcv mcl mbl mpl mpg mpn mus mbs : Nat → Int32) (mhd mrd : Int32) (pgN bN cpN cbN : Nat → Nat) (u q c : Nat) (X : DS) (V : MS) (w : Nat) : Prop := ∃ fmN toN sN lN : Nat → Nat, Rel pg pn us (X.1) (X.2.1) (X.2.2.1) (X.2.2.2.1) (X.2.2.2.2.1) rd (X.2.2.2.2.2.1) (X.2.2.2.2.2.2) hd mnw mcp mcb mcv mcl mbl mpl (V.2.2.2.2.2.1) (V.2.2.2.2.2.2.1) (V.2.2.2.2.2.2.2.1) (V.2.2.2.2.2.2.2.2.1) mpg mpn mus (V.2.2.2.2.2.2.2.2.2) (V.2.2.1) mbs mhd (V.2.1) (V.1) mrd (V.2.2.2.2.1) (V.2.2.2.1) pgN bN cpN cbN fmN toN sN lN u q c w
section RSS
variable {pg pn us : Nat → Int32} {rd hd mnw : Int32} {mcp mcb mcv mcl mbl mpl mpg mpn mus mbs : Nat → Int32} {mhd mrd : Int32} {pgN bN cpN cbN : Nat → Nat} {u q c : Nat}
theorem RS_mono {X : DS} {V : MS} {w w' : Nat} (h : RS pg pn us rd hd mnw mcp mcb mcv mcl mbl mpl mpg mpn mus mbs mhd mrd pgN bN cpN cbN u q c X V w) (hc : c < 519) (hw : w ≤ w') : RS pg pn us rd hd mnw mcp mcb mcv mcl mbl mpl mpg mpn mus mbs mhd mrd pgN bN cpN cbN u q c X V w' := by
  obtain ⟨a, b, d, e, h⟩ := h
  exact ⟨a, b, d, e, R_mono h (Nat.le_refl c) hc hw⟩
theorem RS_wr {X : DS} {V : MS} {w f : Nat} (h : RS pg pn us rd hd mnw mcp mcb mcv mcl mbl mpl mpg mpn mus mbs mhd mrd pgN bN cpN cbN u q c X V w) (hf : f < 12) (hp : pg f ≠ -1) (hw : w < 65535) : RS pg pn us rd hd mnw mcp mcb mcv mcl mbl mpl mpg mpn mus mbs mhd mrd pgN bN cpN cbN u q c (dwrt pgN X f) (mwrt mcp mcl mpl mpg bN pgN u V f) (w + 1) := by
  obtain ⟨di, bt, dk, lf, wn, en, fl⟩ := X
  obtain ⟨mfl, men, mst, mlf, mwn, mfm, mto, mfs, mls, mdi⟩ := V
  obtain ⟨a, b, d, e, h⟩ := h
  have h : Rel pg pn us di bt dk lf wn rd en fl hd mnw mcp mcb mcv mcl mbl mpl mfm mto mfs mls mpg mpn mus mdi mst mbs mhd men mfl mrd mwn mlf pgN bN cpN cbN a b d e u q c w := h
  have h1 := R_write (i := f) h hf hp hw
  unfold RS
  refine ⟨secN a (pgN f) (bN f) 8, secN b (pgN f) u 8, fsN d (pgN f) 8, lsN d e (pgN f) 8, ?_⟩
  rw [dwrt_eq, mwrt_eq]
  dsimp only
  exact h1
theorem RS_rT {X : DS} {V : MS} {w : Nat} (h : RS pg pn us rd hd mnw mcp mcb mcv mcl mbl mpl mpg mpn mus mbs mhd mrd pgN bN cpN cbN u q c X V w) : rT pg pn us X.1 mpg mpn mus V.2.2.2.2.2.2.2.2.2 pgN c := by
  obtain ⟨a, b, d, e, h⟩ := h
  exact h.1
theorem RS_lf {X : DS} {V : MS} {w : Nat} (h : RS pg pn us rd hd mnw mcp mcb mcv mcl mbl mpl mpg mpn mus mbs mhd mrd pgN bN cpN cbN u q c X V w) (z : Nat) : mlA V.2.2.2.1 z = lfA X.2.2.2.1 z := by
  obtain ⟨a, b, d, e, h⟩ := h
  exact R_lf h z
theorem RS_act {X : DS} {V : MS} {w f : Nat} (h : RS pg pn us rd hd mnw mcp mcb mcv mcl mbl mpl mpg mpn mus mbs mhd mrd pgN bN cpN cbN u q c X V w) (hf : f < 12) (hc : c < 519) : (actC pn X f = true ↔ acM mpg mpn V f = true) ∧ (actC pn X f = true → pg f ≠ -1) := by
  have hT := RS_rT h
  have hn : mpg f < 0 ↔ pg f = -1 := by
    obtain ⟨a, b, d, e, h⟩ := h
    exact (R_neg h hf).2
  obtain ⟨n, hn1, en⟩ := (hT f hf).2.2.1
  have hz : pn f ≤ 0 ↔ pn f = 0 := by
    rw [en]
    cases n with
    | zero => exact ⟨fun _ => rfl, fun _ => by decide⟩
    | succ n => exact ⟨fun g => absurd g (nI_nle (by omega) (by omega)), fun g => absurd g (nI_ne0 (by omega) (by omega))⟩
  unfold actC acM
  rw [decide_eq_true_iff, decide_eq_true_iff]
  refine ⟨⟨fun g => ?_, fun g => ?_⟩, fun g => rT_di hT hf g.1⟩
  · have hp := rT_di hT hf g.1
    have t := rT_pg hT hf hp
    exact ⟨fun z => hp (hn.mp z), t.2.2.1.trans (hz.mp g.2), fun z => g.1 (t.2.2.2.2.symm.trans z)⟩
  · have hp : pg f ≠ -1 := fun z => g.1 (hn.mpr z)
    have t := rT_pg hT hf hp
    exact ⟨fun z => g.2.2 (t.2.2.2.2.trans z), hz.mpr (t.2.2.1.symm.trans g.2.1)⟩
theorem RS_actS {X : DS} {V : MS} {w f : Nat} (h : RS pg pn us rd hd mnw mcp mcb mcv mcl mbl mpl mpg mpn mus mbs mhd mrd pgN bN cpN cbN u q c X V w) (hf : f < 12) (hp : pg f ≠ -1) : (actS X f = true ↔ asM V f = true) := by
  have t := rT_pg (RS_rT h) hf hp
  unfold actS asM
  rw [decide_eq_true_iff, decide_eq_true_iff, t.2.2.2.2]
/-- the two go in step: by the hand -/
theorem RS_cl {X : DS} {V : MS} {w nn q0 : Nat} (h : RS pg pn us rd hd mnw mcp mcb mcv mcl mbl mpl mpg mpn mus mbs mhd mrd pgN bN cpN cbN u q c X V w) (hc : c < 519) (hw : w + 12 < 65535) : ∀ k, k ≤ 12 → (clG (acM mpg mpn) (mwrt mcp mcl mpl mpg bN pgN u) nn q0 V k).2 = (clG (actC pn) (dwrt pgN) nn q0 X k).2 ∧ RS pg pn us rd hd mnw mcp mcb mcv mcl mbl mpl mpg mpn mus mbs mhd mrd pgN bN cpN cbN u q c (clG (actC pn) (dwrt pgN) nn q0 X k).1 (clG (acM mpg mpn) (mwrt mcp mcl mpl mpg bN pgN u) nn q0 V k).1 (w + (clG (actC pn) (dwrt pgN) nn q0 X k).2)
  | 0, _ => ⟨rfl, h⟩
  | k + 1, hk => by
    obtain ⟨e, ih⟩ := RS_cl h hc hw k (by omega)
    have hle := clG_le (act := actC pn) (wr := dwrt pgN) (n := nn) (q := q0) (X := X) k
    have hact := RS_act ih (cf_lt (q := q0) (k := k)) hc
    by_cases hf : (clG (actC pn) (dwrt pgN) nn q0 X k).2 < nn
    · by_cases ha : actC pn (clG (actC pn) (dwrt pgN) nn q0 X k).1 (cf q0 k) = true
      · rw [clG_yes hf ha, clG_yes (by rw [e]; exact hf) (hact.1.mp ha)]
        refine ⟨by show _ + 1 = _ + 1; rw [e], ?_⟩
        have hb : w + (clG (actC pn) (dwrt pgN) nn q0 X k).2 < 65535 := by omega
        exact RS_wr (w := w + (clG (actC pn) (dwrt pgN) nn q0 X k).2) ih cf_lt (hact.2 ha) hb
      · rw [clG_no ha, clG_no (fun g => ha (hact.1.mpr g))]
        exact ⟨e, ih⟩
    · rw [clG_full hf, clG_full (by rw [e]; exact hf)]
      exact ⟨e, ih⟩
theorem RS_sw {X : DS} {V : MS} {w : Nat} {fo : Nat → Nat} (h : RS pg pn us rd hd mnw mcp mcb mcv mcl mbl mpl mpg mpn mus mbs mhd mrd pgN bN cpN cbN u q c X V w) (hc : c < 519) (hw : w + 12 < 65535) (hfo : ∀ p, p < 192 → fo p < 12 → pg (fo p) ≠ -1) : ∀ p, p ≤ 192 → (swG asM (mwrt mcp mcl mpl mpg bN pgN u) fo V p).2 = (swG actS (dwrt pgN) fo X p).2 ∧ RS pg pn us rd hd mnw mcp mcb mcv mcl mbl mpl mpg mpn mus mbs mhd mrd pgN bN cpN cbN u q c (swG actS (dwrt pgN) fo X p).1 (swG asM (mwrt mcp mcl mpl mpg bN pgN u) fo V p).1 (w + (swG actS (dwrt pgN) fo X p).2)
  | 0, _ => ⟨rfl, h⟩
  | p + 1, hk => by
    obtain ⟨e, ih⟩ := RS_sw h hc hw hfo p (by omega)
    have hle := sw_cnt (pgN := pgN) (fo := fo) (X := X) p
    by_cases hf : fo p < 12
    · have hpf := hfo p (by omega) hf
      have hact := RS_actS ih hf hpf
      by_cases ha : actS (swG actS (dwrt pgN) fo X p).1 (fo p) = true
      · have hle2 := sw_cnt (pgN := pgN) (fo := fo) (X := X) (p + 1)
        rw [swG_yes hf ha] at hle2
        have hle3 : (swG actS (dwrt pgN) fo X p).2 + 1 ≤ 12 := Nat.le_trans (Nat.le_add_right _ _) hle2
        rw [swG_yes hf ha, swG_yes hf (hact.mp ha)]
        refine ⟨by show _ + 1 = _ + 1; rw [e], ?_⟩
        have hb : w + (swG actS (dwrt pgN) fo X p).2 < 65535 := by omega
        exact RS_wr (w := w + (swG actS (dwrt pgN) fo X p).2) ih hf hpf hb
      · rw [swG_no (fun g => ha g.2), swG_no (fun g => ha (hact.mpr g.2))]
        exact ⟨e, ih⟩
    · rw [swG_no (fun g => hf g.1), swG_no (fun g => hf g.1)]
      exact ⟨e, ih⟩
end RSS
