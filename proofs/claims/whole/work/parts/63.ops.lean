/-! A PAGE WRITTEN, the power cut, a frame filled, a byte changed: the pieces of the relation -/
theorem nI_m1 {n : Nat} (h : n < 2 ^ 31) : nI n ≠ -1 := fun g => absurd (g ▸ nI_pos' h : (0 : Int32) ≤ -1) (by decide)
theorem rT_pg {pg pn us di mpg mpn mus mdi : Nat → Int32} {pgN : Nat → Nat} {c f : Nat} (h : rT pg pn us di mpg mpn mus mdi pgN c) (hf : f < 12) (hp : pg f ≠ -1) : pg f = nI (pgN f) ∧ pgN f < 192 ∧ mpn f = pn f ∧ mus f = us f ∧ mdi f = di f := by
  rcases (h f hf).2.1 with g | g
  · exact absurd g.1 hp
  · exact g
theorem rT_di {pg pn us di mpg mpn mus mdi : Nat → Int32} {pgN : Nat → Nat} {c f : Nat} (h : rT pg pn us di mpg mpn mus mdi pgN c) (hf : f < 12) (hd : di f ≠ 0) : pg f ≠ -1 := by
  rcases (h f hf).2.1 with g | g
  · exact absurd g.2.2.2 hd
  · rw [g.1]; exact nI_m1 (by omega)
theorem r2_wr {pg di mbl mpl mcp mcb : Nat → Int32} {cpN cbN toN : Nat → Nat} {u i np : Nat} (h : r2 pg di mbl mpl cpN cbN toN u) (hC : rC mcp mcb cpN cbN u) (hpg : pg i = nI np) (hnp : np < 192) : r2 pg (upd di i 0) mbl mpl cpN cbN (secN toN np u 8) u := by
  intro p hp hf e h1 h2 hc
  have h512 := (hC e h1 h2).2.2.2
  by_cases ep : p = np
  · subst ep
    rw [secN_in ⟨by omega, by omega⟩, secN_in ⟨by omega, by omega⟩]
    exact ⟨fun g => absurd g (by omega), fun g => absurd g (by omega)⟩
  · rw [secN_out (fun g => by omega), secN_out (fun g => by omega)]
    refine h p hp (fun f hf1 hpf => ?_) e h1 h2 hc
    by_cases ef : f = i
    · subst ef
      exact absurd ((nI_eq (by omega) (by omega)).mp (hpf.symm.trans hpg)) ep
    · have := hf f hf1 hpf
      rw [pk_un ef] at this
      exact this
theorem rT_wr {pg pn us di mpg mpn mus mdi : Nat → Int32} {pgN : Nat → Nat} {c i : Nat} (h : rT pg pn us di mpg mpn mus mdi pgN c) (hp : pg i ≠ -1) : rT pg pn us (upd di i 0) mpg mpn mus (upd mdi i 0) pgN c := by
  intro f hf
  obtain ⟨h1, h2, h3⟩ := h f hf
  refine ⟨h1, ?_, h3⟩
  by_cases ef : f = i
  · subst ef
    rcases h2 with g | g
    · exact absurd g.1 hp
    · exact Or.inr ⟨g.1, g.2.1, g.2.2.1, g.2.2.2.1, by rw [pk_us, pk_us]⟩
  · rw [pk_un ef, pk_un ef]
    exact h2
theorem rB_wr {pg pn us di mpg mpn mus mdi mcp mcb mcv mcl mbl mpl mfs mls mst mbs : Nat → Int32} {bt : Nat → Nat → Int32} {pgN bN sN lN : Nat → Nat} {u c i w : Nat} (h : rB pg bt mcp mcb mcv mcl mbl mpl mfs mst mbs pgN bN u) (hT : rT pg pn us di mpg mpn mus mdi pgN c) (hU : rU pg) (hP : rP mfs mls sN lN w) (hi : i < 12) (hpi : pg i ≠ -1) : rB pg (va_up bt i (psB (bt i) (nI (sN (pgN i) + 1)))) mcp mcb mcv mcl mbl mpl (fsF mfs (pgN i) (nI (sN (pgN i) + 1)) 8) (upd mst i (nI (sN (pgN i) + 1))) mbs pgN bN u := by
  intro f hf hp
  obtain ⟨h1, h2, h3, h4⟩ := h f hf hp
  obtain ⟨t1, t2, -⟩ := rT_pg hT hf hp
  obtain ⟨i1, i2, -⟩ := rT_pg hT hi hpi
  refine ⟨h1, h2, ?_, ?_⟩
  · rw [fsF_at (hP _ t2).1]
    unfold fsN
    by_cases ef : f = i
    · subst ef; rw [pk_us, if_pos ⟨rfl, by omega⟩]
    · rw [pk_un ef, h3, (hP _ t2).1, if_neg (fun g => ef (hU f i hf hi hp (by rw [t1, i1, g.1])))]
  · intro k hk
    by_cases ef : f = i
    · subst ef
      rw [va_up_self, pk_us]
      exact gw_psB hk (h4 k hk)
    · rw [va_up_ne _ _ ef, pk_un ef]
      exact h4 k hk
theorem rI_wr {bt : Nat → Nat → Int32} {dk : Nat → Int32} {i np mm : Nat} {x : Int32} (h : rI bt dk) (hi : i < 12) : rI (va_up bt i (psB (bt i) x)) (wrD dk ((va_up bt i (psB (bt i) x)) i) np mm) := by
  refine ⟨fun f hf => ?_, ?_⟩
  · by_cases ef : f = i
    · subst ef; rw [va_up_self]; exact fit_psB (h.1 f hf)
    · rw [va_up_ne _ _ ef]; exact h.1 f hf
  · rw [va_up_self]; exact fit_wrD h.2 (fit_psB (h.1 i hi))
/-! the power cut -/
theorem lost_B {mbl mto mcp mcb : Nat → Int32} {cpN cbN fmN toN : Nat → Nat} {u e : Nat} {mfm : Nat → Int32} (hC : rC mcp mcb cpN cbN u) (hS : rS mfm mto fmN toN u) (hu : u < 2 ^ 31) (h1 : 1 ≤ e) (h2 : e ≤ u) : stepF mbl (lsB mbl mto cpN cbN) (u + 1) e = if mbl e = 0 then (if e ≤ toN (8 * cpN e + cbN e / 64) then 0 else 1) else 1 := by
  have hc := hC e h1 h2
  have hs := hS (8 * cpN e + cbN e / 64) (by omega)
  unfold stepF
  rw [if_pos ⟨h1, by omega⟩]
  unfold lsB
  rw [hs.2.1]
  by_cases hb : mbl e = 0
  · rw [if_pos hb, if_pos hb]
    by_cases hl : e ≤ toN (8 * cpN e + cbN e / 64)
    · rw [if_pos hl, if_pos (nI_le hl (by omega))]
    · rw [if_neg hl, if_neg (fun g => hl ((nI_leI (by omega) (by omega)).mp g))]
  · rw [if_neg hb, if_neg hb]
theorem lost_P {mpl mto mcp mcb : Nat → Int32} {cpN cbN fmN toN : Nat → Nat} {u e : Nat} {mfm : Nat → Int32} (hC : rC mcp mcb cpN cbN u) (hS : rS mfm mto fmN toN u) (hu : u < 2 ^ 31) (h1 : 1 ≤ e) (h2 : e ≤ u) : stepF mpl (lsP mpl mto cpN) (u + 1) e = if mpl e = 0 then (if e ≤ toN (8 * cpN e) then 0 else 1) else 1 := by
  have hc := hC e h1 h2
  have hs := hS (8 * cpN e) (by omega)
  unfold stepF
  rw [if_pos ⟨h1, by omega⟩]
  unfold lsP
  rw [hs.2.1]
  by_cases hb : mpl e = 0
  · rw [if_pos hb, if_pos hb]
    by_cases hl : e ≤ toN (8 * cpN e)
    · rw [if_pos hl, if_pos (nI_le hl (by omega))]
    · rw [if_neg hl, if_neg (fun g => hl ((nI_leI (by omega) (by omega)).mp g))]
  · rw [if_neg hb, if_neg hb]
theorem rD_cut {dk mcp mcb mcv mcl mbl mpl mfs mls mfm mto : Nat → Int32} {cpN cbN fmN toN : Nat → Nat} {u : Nat} (h : rD dk mcp mcb mcv mcl mbl mpl mfs mls fmN toN) (hC : rC mcp mcb cpN cbN u) (hS : rS mfm mto fmN toN u) (hu : u < 2 ^ 31) : rD dk mcp mcb mcv mcl (stepF mbl (lsB mbl mto cpN cbN) (u + 1)) (stepF mpl (lsP mpl mto cpN) (u + 1)) mfs mls fmN toN := by
  intro p hp i hi
  rw [h p hp i hi]
  have hs := hS (8 * p + i / 64) (by omega)
  refine gw_congr (fun _ => rfl) (fun _ => rfl) (fun h2 h6 => ?_) (fun h6 h9 => ?_)
  · symm
    refine plcF_congr _ (fun e e1 e2 => ⟨rfl, rfl, fun ecp => ?_⟩)
    have hc := hC e (by omega) (by omega)
    have ep : cpN e = p := (nI_eq (by omega) (by omega)).mp (hc.1.symm.trans ecp)
    rw [lost_P hC hS hu (by omega) (by omega), ep]
    have i0 : i / 64 = 0 := by omega
    rw [i0, Nat.add_zero] at e2 hs
    by_cases hb : mpl e = 0
    · rw [if_pos hb, if_pos (by omega)]
      exact ⟨fun _ => hb, fun _ => rfl⟩
    · rw [if_neg hb]
      exact ⟨fun g => absurd g (by decide), fun g => absurd g hb⟩
  · symm
    refine valF_congr _ (fun e e1 e2 => ⟨rfl, rfl, rfl, fun ecp ecb => ?_⟩)
    have hc := hC e (by omega) (by omega)
    have ep : cpN e = p := (nI_eq (by omega) (by omega)).mp (hc.1.symm.trans ecp)
    have ek : cbN e = i := (nI_eq (by omega) (by omega)).mp (hc.2.2.1.symm.trans ecb)
    rw [lost_B hC hS hu (by omega) (by omega), ep, ek]
    by_cases hb : mbl e = 0
    · rw [if_pos hb, if_pos (by omega)]
      exact ⟨fun _ => hb, fun _ => rfl⟩
    · rw [if_neg hb]
      exact ⟨fun g => absurd g (by decide), fun g => absurd g hb⟩
theorem r2_cut {pg di mcp mcb mbl mpl mfm mto : Nat → Int32} {cpN cbN fmN toN : Nat → Nat} {u : Nat} (hC : rC mcp mcb cpN cbN u) (hS : rS mfm mto fmN toN u) (hu : u < 2 ^ 31) : r2 pg di (stepF mbl (lsB mbl mto cpN cbN) (u + 1)) (stepF mpl (lsP mpl mto cpN) (u + 1)) cpN cbN toN u := by
  intro p hp _ e h1 h2 hc
  subst hc
  rw [lost_B hC hS hu h1 h2, lost_P hC hS hu h1 h2]
  refine ⟨fun g => ?_, fun g => ?_⟩
  · rw [if_neg (show ¬ e ≤ toN (8 * cpN e + cbN e / 64) by omega)]
    split <;> decide
  · rw [if_neg (show ¬ e ≤ toN (8 * cpN e) by omega)]
    split <;> decide
theorem dropF_in {c : Int32} {f : Nat → Int32} {z i : Nat} (h : i < z) : dropF c f z i = c := if_pos h
theorem rT_cut {pg pn us di mpg mpn mus mdi : Nat → Int32} {pgN : Nat → Nat} {c : Nat} : rT (dropF (-1) pg 12) (dropF 0 pn 12) (dropF 0 us 12) (dropF 0 di 12) (dropF (-1) mpg 12) mpn mus mdi pgN c := by
  intro f hf
  rw [dropF_in hf, dropF_in hf, dropF_in hf, dropF_in hf, dropF_in hf]
  exact ⟨rfl, Or.inl ⟨rfl, rfl, rfl, rfl⟩, ⟨0, Nat.zero_le _, rfl⟩, ⟨0, Nat.zero_le _, rfl⟩⟩
theorem rU_cut {pg : Nat → Int32} : rU (dropF (-1) pg 12) := fun f _ hf _ h => absurd (dropF_in hf) h
theorem rB_cut {pg mcp mcb mcv mcl mbl mpl mfs mst mbs : Nat → Int32} {bt : Nat → Nat → Int32} {pgN bN : Nat → Nat} {u : Nat} : rB (dropF (-1) pg 12) bt mcp mcb mcv mcl mbl mpl mfs mst mbs pgN bN u := fun _ hf h => absurd (dropF_in hf) h
/-! a frame filled -/
theorem rT_fill {pg pn us di mpg mpn mus mdi : Nat → Int32} {pgN : Nat → Nat} {c f0 n : Nat} (h : rT pg pn us di mpg mpn mus mdi pgN c) (hn : n < 192) (hc : 1 ≤ c) : rT (upd pg f0 (nI n)) (upd pn f0 1) (upd us f0 1) (upd di f0 0) (upd mpg f0 (nI n)) (upd mpn f0 1) (upd mus f0 1) (upd mdi f0 0) (va_up pgN f0 n) c := by
  intro f hf
  by_cases e : f = f0
  · subst e
    rw [pk_us, pk_us, pk_us, pk_us, pk_us, pk_us, pk_us, pk_us, va_up_self]
    exact ⟨rfl, Or.inr ⟨rfl, hn, rfl, rfl, rfl⟩, ⟨1, hc, rfl⟩, ⟨1, by decide, rfl⟩⟩
  · rw [pk_un e, pk_un e, pk_un e, pk_un e, pk_un e, pk_un e, pk_un e, pk_un e, va_up_ne _ _ e]
    exact h f hf
theorem rU_fill {pg : Nat → Int32} {f0 n : Nat} (h : rU pg) (hno : ∀ f, f < 12 → pg f ≠ nI n) : rU (upd pg f0 (nI n)) := by
  intro f g hf hg h1 h2
  by_cases e : f = f0
  · by_cases e2 : g = f0
    · rw [e, e2]
    · rw [e, pk_us, pk_un e2] at h2
      exact absurd h2.symm (hno g hg)
  · by_cases e2 : g = f0
    · rw [e2, pk_us, pk_un e] at h2
      exact absurd h2 (hno f hf)
    · rw [pk_un e] at h1 h2
      rw [pk_un e2] at h2
      exact h f g hf hg h1 h2
theorem r2_fill {pg di mbl mpl : Nat → Int32} {cpN cbN toN : Nat → Nat} {u f0 n : Nat} (h : r2 pg di mbl mpl cpN cbN toN u) (hno : ∀ f, f < 12 → pg f ≠ nI n) (hd : di f0 = 0) : r2 (upd pg f0 (nI n)) (upd di f0 0) mbl mpl cpN cbN toN u := by
  intro p hp hf
  refine h p hp (fun f hf1 hpf => ?_)
  by_cases e : f = f0
  · rw [e]; exact hd
  · have := hf f hf1 (by rw [pk_un e]; exact hpf)
    rw [pk_un e] at this
    exact this
theorem rB_fillP {pg mcp mcb mcv mcl mbl mpl mfs mls mst mbs mfm mto dk di : Nat → Int32} {bt : Nat → Nat → Int32} {g : Nat → Int32} {pgN bN sN lN fmN toN cpN cbN : Nat → Nat} {u f0 n w : Nat} (h : rB pg bt mcp mcb mcv mcl mbl mpl mfs mst mbs pgN bN u) (hD : rD dk mcp mcb mcv mcl mbl mpl mfs mls fmN toN) (hP : rP mfs mls sN lN w) (h3 : r3 sN lN fmN toN) (h2 : r2 pg di mbl mpl cpN cbN toN u) (hC : rC mcp mcb cpN cbN u) (hS : rS mfm mto fmN toN u) (hu : u < 2 ^ 31)
    (hn : n < 192) (hno : ∀ f, f < 12 → pg f ≠ nI n) (hnt : mfs n = mls n) (hw : w < 2 ^ 31) (hg : ∀ i, i < 512 → g i = dk (n * 512 + i)) : rB (upd pg f0 (nI n)) (va_up bt f0 g) mcp mcb mcv mcl mbl mpl mfs (upd mst f0 (mfs n)) (upd mbs f0 (mfm (8 * n))) (va_up pgN f0 n) (va_up bN f0 (fmN (8 * n))) u := by
  have hq := hP n hn
  have est : sN n = lN n := (nI_eq (by omega) (by omega)).mp (hq.1.symm.trans (hnt.trans hq.2.1))
  have hs0 := hS (8 * n) (by omega)
  have lost := h2 n hn (fun f hf e => absurd e (hno f hf))
  intro f hf hp
  by_cases e : f = f0
  · subst e
    rw [pk_us, pk_us, pk_us, va_up_self, va_up_self, va_up_self]
    refine ⟨hs0.1, by omega, rfl, fun i hi => ?_⟩
    obtain ⟨a1, a2⟩ := h3 n hn est (i / 64) (by omega)
    rw [hg i hi, hD n hn i hi, a1, a2]
    refine gw_congr (fun _ => rfl) (fun _ => hnt.symm) (fun i2 i6 => ?_) (fun i6 i9 => ?_)
    · refine (plcF_to hs0.2.2.1 hs0.2.2.2 (fun e e1 e2 ecp => ?_)).symm
      have hc := hC e (by omega) e2
      exact (lost e (by omega) e2 ((nI_eq (by omega) (by omega)).mp (hc.1.symm.trans ecp))).2 e1
    · refine (valF_to hs0.2.2.1 hs0.2.2.2 (fun e e1 e2 ecp ecb => ?_)).symm
      have hc := hC e (by omega) e2
      have ek : cbN e = i := (nI_eq (by omega) (by omega)).mp (hc.2.2.1.symm.trans ecb)
      refine (lost e (by omega) e2 ((nI_eq (by omega) (by omega)).mp (hc.1.symm.trans ecp))).1 ?_
      rw [ek, a2]
      exact e1
  · rw [pk_un e] at hp ⊢
    rw [pk_un e, pk_un e, va_up_ne _ _ e, va_up_ne _ _ e, va_up_ne _ _ e]
    exact h f hf hp
theorem rB_fillR {pg mcp mcb mcv mcl mbl mpl mfs mst mbs : Nat → Int32} {bt : Nat → Nat → Int32} {mnw : Int32} {pgN bN : Nat → Nat} {u f0 n : Nat} (h : rB pg bt mcp mcb mcv mcl mbl mpl mfs mst mbs pgN bN u) (eu : mnw = nI u) : rB (upd pg f0 (nI n)) (va_up bt f0 (psB (fun _ => 0) (mfs n))) mcp mcb mcv mcl mbl mpl mfs (upd mst f0 (mfs n)) (upd mbs f0 mnw) (va_up pgN f0 n) (va_up bN f0 u) u := by
  intro f hf hp
  by_cases e : f = f0
  · subst e
    rw [pk_us, pk_us, pk_us, va_up_self, va_up_self, va_up_self]
    refine ⟨eu, Nat.le_refl u, rfl, fun i hi => ?_⟩
    rw [Nat.sub_self]
    refine gw_psB (sF := 0) (sL := 0) hi ?_
    show (0 : Int32) &&& 255 = gw 0 0 0 (fun _ => 0) i
    unfold gw
    rw [show tn 0 = 0 from rfl, Nat.zero_div, Nat.zero_div, Nat.zero_div]
    split
    · rfl
    · split
      · rfl
      · split <;> rfl
  · rw [pk_un e] at hp ⊢
    rw [pk_un e, pk_un e, va_up_ne _ _ e, va_up_ne _ _ e, va_up_ne _ _ e]
    exact h f hf hp
/-! a byte changed -/
theorem rC_set {mcp mcb : Nat → Int32} {cpN cbN : Nat → Nat} {u np k : Nat} (h : rC mcp mcb cpN cbN u) (hnp : np < 192) (hk : k < 512) : rC (upd mcp (u + 1) (nI np)) (upd mcb (u + 1) (nI k)) (va_up cpN (u + 1) np) (va_up cbN (u + 1) k) (u + 1) := by
  intro e h1 h2
  by_cases ee : e = u + 1
  · subst ee
    rw [pk_us, pk_us, va_up_self, va_up_self]
    exact ⟨rfl, hnp, rfl, hk⟩
  · rw [pk_un ee, pk_un ee, va_up_ne _ _ ee, va_up_ne _ _ ee]
    exact h e h1 (by omega)
theorem rS_set {mfm mto : Nat → Int32} {fmN toN : Nat → Nat} {u : Nat} (h : rS mfm mto fmN toN u) : rS mfm mto fmN toN (u + 1) := fun j hj => ⟨(h j hj).1, (h j hj).2.1, (h j hj).2.2.1, Nat.le_succ_of_le (h j hj).2.2.2⟩
theorem rD_set {dk mcp mcb mcv mcl mbl mpl mfs mls mfm mto : Nat → Int32} {fmN toN : Nat → Nat} {u : Nat} {a b v p : Int32} (h : rD dk mcp mcb mcv mcl mbl mpl mfs mls fmN toN) (hS : rS mfm mto fmN toN u) : rD dk (upd mcp (u + 1) a) (upd mcb (u + 1) b) (upd mcv (u + 1) v) (upd mcl (u + 1) p) (upd mbl (u + 1) 0) (upd mpl (u + 1) 0) mfs mls fmN toN := by
  intro q hq i hi
  rw [h q hq i hi]
  have hs := hS (8 * q + i / 64) (by omega)
  refine gw_congr (fun _ => rfl) (fun _ => rfl) (fun _ _ => ?_) (fun _ _ => ?_)
  · symm
    refine plcF_congr _ (fun e e1 e2 => ?_)
    have ne : e ≠ u + 1 := by omega
    rw [pk_un ne, pk_un ne, pk_un ne]
    exact ⟨rfl, rfl, fun _ => Iff.rfl⟩
  · symm
    refine valF_congr _ (fun e e1 e2 => ?_)
    have ne : e ≠ u + 1 := by omega
    rw [pk_un ne, pk_un ne, pk_un ne, pk_un ne]
    exact ⟨rfl, rfl, rfl, fun _ _ => Iff.rfl⟩
theorem r2_set {pg di mbl mpl : Nat → Int32} {cpN cbN toN : Nat → Nat} {u n np k : Nat} (h : r2 pg di mbl mpl cpN cbN toN u) (hn : n < 12) (hpg : pg n = nI np) (hnp : np < 192) : r2 pg (upd di n 1) (upd mbl (u + 1) 0) (upd mpl (u + 1) 0) (va_up cpN (u + 1) np) (va_up cbN (u + 1) k) toN (u + 1) := by
  intro p hp hf e h1 h2 hc
  have ep : p ≠ np := by
    intro ep
    have := hf n hn (by rw [hpg, ep])
    rw [pk_us] at this
    exact absurd this (by decide)
  have ne : e ≠ u + 1 := by
    intro ee
    rw [ee, va_up_self] at hc
    exact ep hc.symm
  rw [va_up_ne _ _ ne] at hc ⊢
  rw [pk_un ne, pk_un ne]
  refine h p hp (fun f hf1 hpf => ?_) e h1 (by omega) hc
  have nf : f ≠ n := by
    intro ef
    rw [ef, hpg] at hpf
    exact ep ((nI_eq (by omega) (by omega)).mp hpf).symm
  have := hf f hf1 hpf
  rw [pk_un nf] at this
  exact this
theorem rT_set {pg pn us di mpg mpn mus mdi : Nat → Int32} {pgN : Nat → Nat} {c i : Nat} (h : rT pg pn us di mpg mpn mus mdi pgN c) (hp : pg i ≠ -1) : rT pg pn us (upd di i 1) mpg mpn mus (upd mdi i 1) pgN c := by
  intro f hf
  obtain ⟨h1, h2, h3⟩ := h f hf
  refine ⟨h1, ?_, h3⟩
  by_cases ef : f = i
  · subst ef
    rcases h2 with g | g
    · exact absurd g.1 hp
    · exact Or.inr ⟨g.1, g.2.1, g.2.2.1, g.2.2.2.1, by rw [pk_us, pk_us]⟩
  · rw [pk_un ef, pk_un ef]
    exact h2
theorem rB_set {pg mcp mcb mcv mcl mbl mpl mfs mst mbs : Nat → Int32} {bt : Nat → Nat → Int32} {pgN bN : Nat → Nat} {u n np k : Nat} {v pl : Int32} (h : rB pg bt mcp mcb mcv mcl mbl mpl mfs mst mbs pgN bN u) (hU : rU pg) (hn : n < 12) (hpg : pg n = nI np) (hnp : np < 192) (hk1 : 6 ≤ k) (hk2 : k ≤ 509) : rB pg (va_up bt n (chB (bt n) k v pl)) (upd mcp (u + 1) (nI np)) (upd mcb (u + 1) (nI k)) (upd mcv (u + 1) (v &&& 255)) (upd mcl (u + 1) pl) (upd mbl (u + 1) 0) (upd mpl (u + 1) 0) mfs mst mbs pgN bN (u + 1) := by
  intro f hf hp
  obtain ⟨h1, h2, h3, h4⟩ := h f hf hp
  refine ⟨h1, by omega, h3, fun i hi => ?_⟩
  by_cases ef : f = n
  · subst ef
    rw [va_up_self, plcF_new h2, if_pos hpg.symm]
    refine gw_chB hk1 hk2 hi (h4 i hi) ?_ (fun nk => ?_)
    · unfold pgV
      rw [valF_new h2, if_pos ⟨hpg.symm, rfl⟩]
    · unfold pgV
      rw [valF_new h2]
      by_cases hi31 : nI k = nI i
      · exact absurd ((nI_eq (by omega) (by omega)).mp hi31).symm nk
      · rw [if_neg (fun g => hi31 g.2)]
  · have ne : ¬ nI np = pg f := fun g => ef (hU f n hf hn hp (by rw [← g, hpg]))
    rw [va_up_ne _ _ ef, h4 i hi, plcF_new h2, if_neg ne]
    refine gw_congr (fun _ => rfl) (fun _ => rfl) (fun _ _ => rfl) (fun _ _ => ?_)
    unfold pgV
    rw [valF_new h2, if_neg (fun g => ne g.1)]
theorem rI_set {bt : Nat → Nat → Int32} {dk : Nat → Int32} {n k : Nat} {v pl : Int32} (h : rI bt dk) : rI (va_up bt n (chB (bt n) k v pl)) dk := by
  refine ⟨fun f hf => ?_, h.2⟩
  by_cases ef : f = n
  · subst ef; rw [va_up_self]; exact fit_chB (h.1 f hf)
  · rw [va_up_ne _ _ ef]; exact h.1 f hf
