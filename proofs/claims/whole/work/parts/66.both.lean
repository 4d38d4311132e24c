/-! LOOKED UP ON BOTH SIDES; worlds in relation; what a call does -/
section REL2
variable {pg pn us di : Nat → Int32} {bt : Nat → Nat → Int32} {dk : Nat → Int32} {lf wn rd en fl hd : Int32} {mnw : Int32} {mcp mcb mcv mcl mbl mpl mfm mto mfs mls mpg mpn mus mdi mst mbs : Nat → Int32} {mhd men mfl mrd mwn mlf : Int32} {pgN bN cpN cbN fmN toN sN lN : Nat → Nat} {u q c w : Nat}
theorem R_neg {f : Nat} (hR : Rel pg pn us di bt dk lf wn rd en fl hd mnw mcp mcb mcv mcl mbl mpl mfm mto mfs mls mpg mpn mus mdi mst mbs mhd men mfl mrd mwn mlf pgN bN cpN cbN fmN toN sN lN u q c w) (hf : f < 12) : mpg f = pg f ∧ (mpg f < 0 ↔ pg f = -1) := by
  have h := hR.1 f hf
  refine ⟨h.1, ?_⟩
  rw [h.1]
  rcases h.2.1 with g | g
  · rw [g.1]; exact ⟨fun _ => rfl, fun _ => by decide⟩
  · rw [g.1]
    exact ⟨fun z => absurd z (nI_pos (by omega)), fun z => absurd z (nI_m1 (by omega))⟩
theorem R_find {n : Nat} (hR : Rel pg pn us di bt dk lf wn rd en fl hd mnw mcp mcb mcv mcl mbl mpl mfm mto mfs mls mpg mpn mus mdi mst mbs mhd men mfl mrd mwn mlf pgN bN cpN cbN fmN toN sN lN u q c w) (hn : n < 192) : (∃ j, j < 12 ∧ fwR pg (nI n) (nI j) ∧ foM mpg (nI n) 12 = nI j ∧ pg j ≠ -1) ∨ ((∀ f, f < 12 → pg f ≠ nI n) ∧ foM mpg (nI n) 12 = -1) := by
  by_cases h : ∃ j, j < 12 ∧ pg j = nI n
  · obtain ⟨j, ⟨hj, e⟩, hl⟩ := pk_least (fun j => j < 12 ∧ pg j = nI n) h
    have hp : pg j ≠ -1 := by rw [e]; exact nI_m1 (by omega)
    refine Or.inl ⟨j, hj, Or.inr ⟨j, hj, rfl, e, fun k hk g => hl k hk ⟨by omega, g⟩⟩, ?_, hp⟩
    refine foM_in ((R_neg hR hj).1.trans e) 12 hj (fun i hi g => ?_)
    rw [(R_neg hR hi).1] at g
    exact (hR.2.1 j i hj hi hp (e.trans g.symm)).symm
  · have hno : ∀ f, f < 12 → pg f ≠ nI n := fun f hf g => h ⟨f, hf, g⟩
    exact Or.inr ⟨hno, foM_none 12 (fun j hj g => hno j hj ((R_neg hR hj).1 ▸ g))⟩
theorem R_pins (hR : Rel pg pn us di bt dk lf wn rd en fl hd mnw mcp mcb mcv mcl mbl mpl mfm mto mfs mls mpg mpn mus mdi mst mbs mhd men mfl mrd mwn mlf pgN bN cpN cbN fmN toN sN lN u q c w) : (ahR pn 1 ∧ apM mpg mpn 12 = 1) ∨ (ahR pn 0 ∧ apM mpg mpn 12 = 0 ∧ ∃ i, i < 12 ∧ pn i = 0) := by
  by_cases h : ∃ i, i < 12 ∧ pn i ≤ 0
  · obtain ⟨i, hi, h0⟩ := h
    have hT := hR.1 i hi
    obtain ⟨a, ha, e⟩ := hT.2.2.1
    have hc : c < 519 := hR.2.2.2.2.2.2.2.2.2.2.2.2.2.2.2.2.2.2.2.2.2
    have e0 : pn i = 0 := by
      cases a with
      | zero => exact e.trans nI_0
      | succ a => exact absurd (e ▸ h0) (nI_nle (by omega) (by omega))
    refine Or.inr ⟨Or.inr ⟨rfl, i, hi, h0⟩, apM_0 (j := i) ?_ 12 hi, i, hi, e0⟩
    rcases hT.2.1 with g | g
    · exact Or.inl ((R_neg hR hi).2.mpr g.1)
    · exact Or.inr (g.2.2.1 ▸ h0)
  · have hn : ∀ i, i < 12 → ¬ pn i ≤ 0 := fun i hi g => h ⟨i, hi, g⟩
    refine Or.inl ⟨Or.inl ⟨rfl, hn⟩, apM_1 12 (fun j hj => ?_)⟩
    rcases (hR.1 j hj).2.1 with g | g
    · exact absurd (by rw [g.2.1]; decide) (hn j hj)
    · refine ⟨fun z => ?_, g.2.2.1 ▸ hn j hj⟩
      exact absurd ((R_neg hR hj).2.mp z) (by rw [g.1]; exact nI_m1 (by omega))
/-- a frame is found: an empty one, or by the hand -/
theorem R_free (hR : Rel pg pn us di bt dk lf wn rd en fl hd mnw mcp mcb mcv mcl mbl mpl mfm mto mfs mls mpg mpn mus mdi mst mbs mhd men mfl mrd mwn mlf pgN bN cpN cbN fmN toN sN lN u q c w) {i0 : Nat} (hi0 : i0 < 12) (hp0 : pn i0 = 0) : (∃ f0, f0 < 12 ∧ fwR pg (-1) (nI f0) ∧ mpg f0 < 0 ∧ di f0 = 0 ∧ ∀ j, j < f0 → ¬ mpg j < 0) ∨ ((∀ i, i < 12 → pg i ≠ -1) ∧ (∀ i, i < 12 → ¬ mpg i < 0) ∧ (∀ i, i < 12 → ¬ mus i < 0) ∧ ∃ u1 u2 f0, f0 < 12 ∧ hbU pn 48 (us, q) = (u1, f0) ∧ hbU mpn 48 (mus, q) = (u2, f0) ∧ mpn f0 = 0 ∧ u2 f0 = 0 ∧ mdi f0 = di f0 ∧ ∀ f, f < 12 → pg f ≠ -1 ∧ u2 f = u1 f ∧ ∃ a, a ≤ 3 ∧ u1 f = nI a) := by
  by_cases h : ∃ j, j < 12 ∧ pg j = -1
  · obtain ⟨j, ⟨hj, e⟩, hl⟩ := pk_least (fun j => j < 12 ∧ pg j = -1) h
    refine Or.inl ⟨j, hj, Or.inr ⟨j, hj, rfl, e, fun k hk g => hl k hk ⟨by omega, g⟩⟩, (R_neg hR hj).2.mpr e, ?_, fun k hk g => hl k hk ⟨by omega, (R_neg hR (by omega)).2.mp g⟩⟩
    rcases (hR.1 j hj).2.1 with g | g
    · exact g.2.2.2
    · exact absurd e (by rw [g.1]; exact nI_m1 (by omega))
  · have hno : ∀ f, f < 12 → pg f ≠ -1 := fun f hf g => h ⟨f, hf, g⟩
    have hq : q < 12 := hR.2.2.2.2.2.2.2.2.2.2.2.2.2.2.2.2.2.2.1
    have hpn : ∀ i, i < 12 → mpn i = pn i := fun i hi => (rT_pg hR.1 hi (hno i hi)).2.2.1
    have hus : ∀ i, i < 12 → mus i = us i := fun i hi => (rT_pg hR.1 hi (hno i hi)).2.2.2.1
    have hu3 : ∀ i, i < 12 → ∃ a, a ≤ 3 ∧ us i = nI a := fun i hi => (hR.1 i hi).2.2.2
    obtain ⟨a, ha3, ea⟩ := hu3 i0 hi0
    have hend := hbU_end hi0 hp0 48 us q a hq ea ha3 (by have := Nat.mod_lt (i0 + 12 - q) (show 12 > 0 by decide); omega)
    have hsame := hbU_same hpn 48 us mus q hq hus
    have hrng := hbU_rng (pn := pn) 48 us q hq hu3
    have hlt := hbU_lt pn 48 (us, q) hq
    refine Or.inr ⟨hno, fun i hi g => hno i hi ((R_neg hR hi).2.mp g), fun i hi => ?_, (hbU pn 48 (us, q)).1, (hbU mpn 48 (mus, q)).1, (hbU pn 48 (us, q)).2, hlt, rfl, ?_, ?_, ?_, (rT_pg hR.1 hlt (hno _ hlt)).2.2.2.2, fun f hf => ⟨hno f hf, hsame.2 f hf, hrng f hf⟩⟩
    · rw [hus i hi]
      obtain ⟨b, hb, e⟩ := hu3 i hi
      rw [e]; exact nI_pos (by omega)
    · rw [← hsame.1]
    · rw [hpn _ hlt]; exact hend.1
    · rw [hsame.2 _ hlt]; exact hend.2
theorem R_lf (hR : Rel pg pn us di bt dk lf wn rd en fl hd mnw mcp mcb mcv mcl mbl mpl mfm mto mfs mls mpg mpn mus mdi mst mbs mhd men mfl mrd mwn mlf pgN bN cpN cbN fmN toN sN lN u q c w) (z : Nat) : mlA mlf z = lfA lf z := by
  obtain ⟨x1, x2, -⟩ := hR.2.2.2.2.2.2.2.2.2.2
  rw [x1]
  exact (lfG_step x2 z).2
end REL2

/-- the two worlds, c calls and w writes behind the start -/
def RW (h dr db lg fa : Nat) (fr fb : Nat → Nat) (ka : Nat → ClassId) (h2 : Nat) (ad : Nat → Nat) (mth : Int32) (c w : Nat) (W M : va_W) : Prop :=
  ∃ (pg pn us di : Nat → Int32) (bt : Nat → Nat → Int32) (dk : Nat → Int32) (lf wn rd en fl hd : Int32) (mnw : Int32) (mcp mcb mcv mcl mbl mpl mfm mto mfs mls mpg mpn mus mdi mst mbs : Nat → Int32) (mhd men mfl mrd mwn mlf : Int32) (pgN bN cpN cbN fmN toN sN lN : Nat → Nat) (u q : Nat),
    W = dw h dr db lg fa fr fb ka pg pn us di bt dk lf wn rd en fl hd ∧ M = mw h2 ad ka mth mnw mcp mcb mcv mcl mbl mpl mfm mto mfs mls mpg mpn mus mdi mst mbs mhd men mfl mrd mwn mlf ∧ Rel pg pn us di bt dk lf wn rd en fl hd mnw mcp mcb mcv mcl mbl mpl mfm mto mfs mls mpg mpn mus mdi mst mbs mhd men mfl mrd mwn mlf pgN bN cpN cbN fmN toN sN lN u q c w
def preB (dC : Nat → ClassId) (dI : Nat → Nat → Nat) (ka : Nat → ClassId) (sz : Nat) (W : va_W) (U : State) : Prop := U.heap.size = sz ∧ tk_E dC dI ka U ∧ va_P (dC, dI) clB W U.heap ∧ va_D (fun _ => True) W
def preX (dC : Nat → ClassId) (dI : Nat → Nat → Nat) (ka : Nat → ClassId) (sa : Nat → Nat) (sz : Nat) (W : va_W) (U : State) : Prop := U.heap.size = sz ∧ tk_E dC dI ka U ∧ tk_X sa U ∧ tk_Z (va_A W sz) U U.heap ∧ va_P (dC, dI) clB W U.heap ∧ va_D (fun _ => True) W
/-- it answers r -/
def oI (l : Launch) (dC : Nat → ClassId) (dI : Nat → Nat → Nat) (ka : Nat → ClassId) (y : MethodName) (ws : List Cond) (as : List Value) (W W' : va_W) (r : Int32) : Prop :=
  ∃ fr lo : Nat, fr ≤ 4 ∧ lo ≤ 151 ∧ ∀ sz, Met l y ws ({ frames := fr, cells := 0, slots := 0, locals := lo }) (va_Pc as (preB dC dI ka sz W)) (va_Qi (fun (r' : Int32) (_ : Unit) => r' = r) (fun _ t => va_P (dC, dI) clB W' t.heap) (va_A W sz)) 0 0 (va_A W sz)
/-- it answers nothing -/
def oV (l : Launch) (dC : Nat → ClassId) (dI : Nat → Nat → Nat) (ka : Nat → ClassId) (y : MethodName) (ws : List Cond) (as : List Value) (W W' : va_W) : Prop :=
  ∃ fr lo : Nat, fr ≤ 4 ∧ lo ≤ 151 ∧ ∀ sz, Met l y ws ({ frames := fr, cells := 0, slots := 0, locals := lo }) (va_Pc as (preB dC dI ka sz W)) (va_Qv (fun _ : Unit => True) (fun _ t => va_P (dC, dI) clB W' t.heap) (va_A W sz)) 0 0 (va_A W sz)
/-- it answers r, and changes nothing -/
def oR (l : Launch) (dC : Nat → ClassId) (dI : Nat → Nat → Nat) (ka : Nat → ClassId) (y : MethodName) (ws : List Cond) (as : List Value) (W : va_W) (r : Int32) : Prop :=
  ∃ fr lo : Nat, fr ≤ 4 ∧ lo ≤ 151 ∧ Met l y ws ({ frames := fr, cells := 0, slots := 0, locals := lo }) (va_Pc as (fun U => tk_E dC dI ka U ∧ va_P (dC, dI) clB W U.heap)) (vp_Si (fun r' => r' = r)) 0 0 (fun _ => False)
/-- it throws E -/
def oX (l : Launch) (dC : Nat → ClassId) (dI : Nat → Nat → Nat) (ka : Nat → ClassId) (y : MethodName) (ws : List Cond) (as : List Value) (W W' : va_W) (E : String) : Prop :=
  ∃ fr lo : Nat, fr ≤ 8 ∧ lo ≤ 127 ∧ ∀ (sa : Nat → Nat) (sz : Nat), vx_Met l y ws ({ frames := fr, cells := 1, slots := 6, locals := lo }) (va_Pc as (preX dC dI ka sa sz W)) (va_Qi (fun (_ : Int32) (_ : Unit) => False) (fun _ _ => True) (va_A W sz)) (vx_X (fun _ : Unit => True) (fun E' _ t => E' = E ∧ va_P (dC, dI) clB W' t.heap) (va_A W sz)) 1 6 (va_A W sz)
def oXv (l : Launch) (dC : Nat → ClassId) (dI : Nat → Nat → Nat) (ka : Nat → ClassId) (y : MethodName) (ws : List Cond) (as : List Value) (W W' : va_W) (E : String) : Prop :=
  ∃ fr lo : Nat, fr ≤ 8 ∧ lo ≤ 127 ∧ ∀ (sa : Nat → Nat) (sz : Nat), vx_Met l y ws ({ frames := fr, cells := 1, slots := 6, locals := lo }) (va_Pc as (preX dC dI ka sa sz W)) (va_Qv (fun _ : Unit => False) (fun _ _ => True) (va_A W sz)) (vx_X (fun _ : Unit => True) (fun E' _ t => E' = E ∧ va_P (dC, dI) clB W' t.heap) (va_A W sz)) 1 6 (va_A W sz)
