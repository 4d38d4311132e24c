/-! THE WHOLE RELATION -/
def rX (lf wn rd en fl hd mnw mhd men mfl mrd mwn mlf : Int32) (u q c : Nat) : Prop := mlf = lf ∧ lfG lf ∧ mwn = wn ∧ mrd = rd ∧ men = en ∧ mfl = fl ∧ mhd = nI q ∧ hd = nI q ∧ q < 12 ∧ mnw = nI u ∧ u ≤ c ∧ c < 519
def Rel (pg pn us di : Nat → Int32) (bt : Nat → Nat → Int32) (dk : Nat → Int32) (lf wn rd en fl hd : Int32) (mnw : Int32) (mcp mcb mcv mcl mbl mpl mfm mto mfs mls mpg mpn mus mdi mst mbs : Nat → Int32) (mhd men mfl mrd mwn mlf : Int32) (pgN bN cpN cbN fmN toN sN lN : Nat → Nat) (u q c w : Nat) : Prop :=
  rT pg pn us di mpg mpn mus mdi pgN c ∧ rU pg ∧ rC mcp mcb cpN cbN u ∧ rS mfm mto fmN toN u ∧ rP mfs mls sN lN w ∧ r3 sN lN fmN toN ∧ r2 pg di mbl mpl cpN cbN toN u ∧ rB pg bt mcp mcb mcv mcl mbl mpl mfs mst mbs pgN bN u ∧ rD dk mcp mcb mcv mcl mbl mpl mfs mls fmN toN ∧ rI bt dk ∧ rX lf wn rd en fl hd mnw mhd men mfl mrd mwn mlf u q c
section REL
variable {pg pn us di : Nat → Int32} {bt : Nat → Nat → Int32} {dk : Nat → Int32} {lf wn rd en fl hd : Int32} {mnw : Int32} {mcp mcb mcv mcl mbl mpl mfm mto mfs mls mpg mpn mus mdi mst mbs : Nat → Int32} {mhd men mfl mrd mwn mlf : Int32} {pgN bN cpN cbN fmN toN sN lN : Nat → Nat} {u q c w : Nat}
theorem R_mono {c' w' : Nat} (hR : Rel pg pn us di bt dk lf wn rd en fl hd mnw mcp mcb mcv mcl mbl mpl mfm mto mfs mls mpg mpn mus mdi mst mbs mhd men mfl mrd mwn mlf pgN bN cpN cbN fmN toN sN lN u q c w) (hc : c ≤ c') (hc2 : c' < 519) (hw : w ≤ w') : Rel pg pn us di bt dk lf wn rd en fl hd mnw mcp mcb mcv mcl mbl mpl mfm mto mfs mls mpg mpn mus mdi mst mbs mhd men mfl mrd mwn mlf pgN bN cpN cbN fmN toN sN lN u q c' w' := by
  obtain ⟨hT, hU, hC, hS, hP, h3, h2, hB, hD, hI, x1, x2, x3, x4, x5, x6, x7, x8, x9, x10, x11, x12⟩ := hR
  refine ⟨fun f hf => ?_, hU, hC, hS, fun p hp => ?_, h3, h2, hB, hD, hI, x1, x2, x3, x4, x5, x6, x7, x8, x9, x10, by omega, hc2⟩
  · obtain ⟨a, b, ⟨n, hn, e⟩, d⟩ := hT f hf
    exact ⟨a, b, ⟨n, by omega, e⟩, d⟩
  · obtain ⟨a, b, c1, d⟩ := hP p hp
    exact ⟨a, b, c1, by omega⟩
theorem en_eq (P e : Int32) : (if e < P then P else e) = if P ≤ e then e else P := by
  by_cases h : P ≤ e
  · rw [if_pos h, if_neg (Int32.not_lt.mpr h)]
  · rw [if_neg h, if_pos (Int32.not_le.mp h)]
theorem fl_eq (P e f : Int32) : (if e < P then f + 1 else f) = if P ≤ e then f else f + 1 := by
  by_cases h : P ≤ e
  · rw [if_pos h, if_neg (Int32.not_lt.mpr h)]
  · rw [if_neg h, if_pos (Int32.not_le.mp h)]
/-- what a frame's bytes say -/
theorem R_st {i : Nat} (hR : Rel pg pn us di bt dk lf wn rd en fl hd mnw mcp mcb mcv mcl mbl mpl mfm mto mfs mls mpg mpn mus mdi mst mbs mhd men mfl mrd mwn mlf pgN bN cpN cbN fmN toN sN lN u q c w) (hi : i < 12) (hpi : pg i ≠ -1) (hw : w < 65535) : mst i = nI (sN (pgN i)) ∧ tb2 (bt i) 0 = nI (sN (pgN i)) ∧ plB (bt i) = plcF mcp mcl mpl (mpg i) (bN i) (u - bN i) ∧ pg i = nI (pgN i) ∧ mpg i = nI (pgN i) ∧ pgN i < 192 ∧ mbs i = nI (bN i) ∧ bN i ≤ u ∧ sN (pgN i) < 65535 := by
  obtain ⟨hT, hU, hC, hS, hP, h3, h2, hB, hD, hI, hX⟩ := hR
  obtain ⟨b1, b2, b3, b4⟩ := hB i hi hpi
  obtain ⟨t1, t2, -⟩ := rT_pg hT hi hpi
  have hq := hP _ t2
  have es : mst i = nI (sN (pgN i)) := b3.trans hq.1
  refine ⟨es, gw_st (b4 0 (by decide)) (b4 1 (by decide)) es (by omega), ?_, t1, (hT i hi).1.trans t1, t2, b1, b2, by omega⟩
  rw [gw_pl b4, (hT i hi).1]

theorem R_write {i : Nat} (hR : Rel pg pn us di bt dk lf wn rd en fl hd mnw mcp mcb mcv mcl mbl mpl mfm mto mfs mls mpg mpn mus mdi mst mbs mhd men mfl mrd mwn mlf pgN bN cpN cbN fmN toN sN lN u q c w) (hi : i < 12) (hpi : pg i ≠ -1) (hw : w < 65535) : Rel pg pn us (upd di i 0) (va_up bt i (psB (bt i) (tb2 (bt i) 0 + 1))) (wrD dk ((va_up bt i (psB (bt i) (tb2 (bt i) 0 + 1))) i) (pgN i) 8) (lfA lf 8) (wn + nI 8) rd (if en < (plB (bt i)) then (plB (bt i)) else en) (if en < (plB (bt i)) then fl + 1 else fl) hd mnw mcp mcb mcv mcl mbl mpl (secF mfm (pgN i) (nI (bN i)) 8) (secF mto (pgN i) (nI u) 8) (fsF mfs (pgN i) (rs1 (mst i)) 8) (lsF mls (pgN i) (rs1 (mst i)) 8) mpg mpn mus (upd mdi i 0) (upd mst i (rs1 (mst i))) mbs mhd (if (plcF mcp mcl mpl (mpg i) (bN i) (u - bN i)) ≤ men then men else (plcF mcp mcl mpl (mpg i) (bN i) (u - bN i))) (if (plcF mcp mcl mpl (mpg i) (bN i) (u - bN i)) ≤ men then mfl else mfl + 1) mrd (mwn + nI 8) (mlA mlf 8) pgN bN cpN cbN (secN fmN (pgN i) (bN i) 8) (secN toN (pgN i) u 8) (fsN sN (pgN i) 8) (lsN sN lN (pgN i) 8) u q c (w + 1) := by
  obtain ⟨es, et, ep, t1, m1, t2, b1, b2, hs⟩ := R_st hR hi hpi hw
  obtain ⟨hT, hU, hC, hS, hP, h3, h2, hB, hD, hI, x1, x2, x3, x4, x5, x6, x7, x8, x9, x10, x11, x12⟩ := hR
  have ers : rs1 (mst i) = nI (sN (pgN i) + 1) := by rw [es]; exact rs1_n hs
  have ett : tb2 (bt i) 0 + 1 = nI (sN (pgN i) + 1) := by rw [et, nI_1]
  rw [ers, ett]
  have hB' := rB_wr hB hT hU hP hi hpi
  refine ⟨rT_wr hT hpi, hU, hC, rS_wr hS b2, rP_wr hP t2, r3_wr h3 hP (Nat.le_refl 8), r2_wr h2 hC t1 t2, hB', ?_, rI_wr hI hi, ?_⟩
  · refine rD_wr hD hP (Nat.le_refl 8) t2 (fun k hk => ?_)
    have := (hB' i hi hpi).2.2.2 k hk
    rw [pk_us, t1] at this
    exact this
  · rw [x1, x5, x6, x3, ep, en_eq, fl_eq]
    exact ⟨(lfG_step x2 8).2, (lfG_step x2 8).1, rfl, x4, rfl, rfl, x7, x8, x9, x10, x11, x12⟩

theorem R_cut {i mm : Nat} (hR : Rel pg pn us di bt dk lf wn rd en fl hd mnw mcp mcb mcv mcl mbl mpl mfm mto mfs mls mpg mpn mus mdi mst mbs mhd men mfl mrd mwn mlf pgN bN cpN cbN fmN toN sN lN u q c w) (hi : i < 12) (hpi : pg i ≠ -1) (hw : w < 65535) (hm : mm < 8) : Rel (dropF (-1) pg 12) (dropF 0 pn 12) (dropF 0 us 12) (dropF 0 di 12) (va_up bt i (psB (bt i) (tb2 (bt i) 0 + 1))) (wrD dk ((va_up bt i (psB (bt i) (tb2 (bt i) 0 + 1))) i) (pgN i) mm) (-1) (wn + nI mm) rd (if en < (plB (bt i)) then (plB (bt i)) else en) (if en < (plB (bt i)) then fl + 1 else fl) 0 mnw mcp mcb mcv mcl (stepF mbl (lsB mbl (secF mto (pgN i) (nI u) mm) cpN cbN) (u + 1)) (stepF mpl (lsP mpl (secF mto (pgN i) (nI u) mm) cpN) (u + 1)) (secF mfm (pgN i) (nI (bN i)) mm) (secF mto (pgN i) (nI u) mm) (fsF mfs (pgN i) (rs1 (mst i)) mm) (lsF mls (pgN i) (rs1 (mst i)) mm) (dropF (-1) mpg 12) mpn mus mdi (upd mst i (rs1 (mst i))) mbs 0 (if (plcF mcp mcl mpl (mpg i) (bN i) (u - bN i)) ≤ men then men else (plcF mcp mcl mpl (mpg i) (bN i) (u - bN i))) (if (plcF mcp mcl mpl (mpg i) (bN i) (u - bN i)) ≤ men then mfl else mfl + 1) mrd (mwn + nI mm) (-1) pgN bN cpN cbN (secN fmN (pgN i) (bN i) mm) (secN toN (pgN i) u mm) (fsN sN (pgN i) mm) (lsN sN lN (pgN i) mm) u 0 c (w + 1) := by
  obtain ⟨es, et, ep, t1, m1, t2, b1, b2, hs⟩ := R_st hR hi hpi hw
  obtain ⟨hT, hU, hC, hS, hP, h3, h2, hB, hD, hI, x1, x2, x3, x4, x5, x6, x7, x8, x9, x10, x11, x12⟩ := hR
  have ers : rs1 (mst i) = nI (sN (pgN i) + 1) := by rw [es]; exact rs1_n hs
  have ett : tb2 (bt i) 0 + 1 = nI (sN (pgN i) + 1) := by rw [et, nI_1]
  rw [ers, ett]
  have hB' := rB_wr hB hT hU hP hi hpi
  have hS' : rS (secF mfm (pgN i) (nI (bN i)) mm) (secF mto (pgN i) (nI u) mm) (secN fmN (pgN i) (bN i) mm) (secN toN (pgN i) u mm) u := rS_wr hS b2
  have hD' := rD_wr (g := (va_up bt i (psB (bt i) (nI (sN (pgN i) + 1)))) i) (u := u) (b := bN i) (mm := mm) hD hP (by omega) t2 (fun k hk => by
    have := (hB' i hi hpi).2.2.2 k hk
    rw [pk_us, t1] at this
    exact this)
  refine ⟨rT_cut, rU_cut, hC, hS', rP_wr hP t2, r3_wr h3 hP (by omega), r2_cut hC hS' (by omega), rB_cut, rD_cut hD' hC hS' (by omega), rI_wr hI hi, ?_⟩
  rw [x5, x6, x3, ep, en_eq, fl_eq]
  exact ⟨rfl, Or.inl rfl, rfl, x4, rfl, rfl, rfl, rfl, by decide, x10, x11, x12⟩

theorem R_hand {u1 u2 : Nat → Int32} {q2 : Nat} (hR : Rel pg pn us di bt dk lf wn rd en fl hd mnw mcp mcb mcv mcl mbl mpl mfm mto mfs mls mpg mpn mus mdi mst mbs mhd men mfl mrd mwn mlf pgN bN cpN cbN fmN toN sN lN u q c w) (hq : q2 < 12) (h1 : ∀ f, f < 12 → pg f ≠ -1 ∧ u2 f = u1 f ∧ ∃ a, a ≤ 3 ∧ u1 f = nI a) : Rel pg pn u1 di bt dk lf wn rd en fl (nI q2) mnw mcp mcb mcv mcl mbl mpl mfm mto mfs mls mpg mpn u2 mdi mst mbs (nI q2) men mfl mrd mwn mlf pgN bN cpN cbN fmN toN sN lN u q2 c w := by
  obtain ⟨hT, hU, hC, hS, hP, h3, h2, hB, hD, hI, x1, x2, x3, x4, x5, x6, x7, x8, x9, x10, x11, x12⟩ := hR
  refine ⟨fun f hf => ?_, hU, hC, hS, hP, h3, h2, hB, hD, hI, x1, x2, x3, x4, x5, x6, rfl, rfl, hq, x10, x11, x12⟩
  obtain ⟨a, b, d, e⟩ := hT f hf
  obtain ⟨g1, g2, g3⟩ := h1 f hf
  refine ⟨a, Or.inr ?_, d, g3⟩
  rcases b with b | b
  · exact absurd b.1 g1
  · exact ⟨b.1, b.2.1, b.2.2.1, g2, b.2.2.2.2⟩

theorem R_fillP {f0 n : Nat} (hR : Rel pg pn us di bt dk lf wn rd en fl hd mnw mcp mcb mcv mcl mbl mpl mfm mto mfs mls mpg mpn mus mdi mst mbs mhd men mfl mrd mwn mlf pgN bN cpN cbN fmN toN sN lN u q c w) (hf0 : f0 < 12) (hn : n < 192) (hno : ∀ f, f < 12 → pg f ≠ nI n) (hnt : mfs n = mls n) (hd0 : di f0 = 0) (hc : 1 ≤ c) (hw : w < 65535) : Rel (upd pg f0 (nI n)) (upd pn f0 1) (upd us f0 1) (upd di f0 0) (va_up bt f0 (va_cpy dk (bt f0) (n * 512) 0 512)) dk lf wn (rd + 1) en fl hd mnw mcp mcb mcv mcl mbl mpl mfm mto mfs mls (upd mpg f0 (nI n)) (upd mpn f0 1) (upd mus f0 1) (upd mdi f0 0) (upd mst f0 (mfs n)) (upd mbs f0 (mfm (8 * n))) mhd men mfl (mrd + 1) mwn mlf (va_up pgN f0 n) (va_up bN f0 (fmN (8 * n))) cpN cbN fmN toN sN lN u q c w := by
  obtain ⟨hT, hU, hC, hS, hP, h3, h2, hB, hD, hI, x1, x2, x3, x4, x5, x6, x7, x8, x9, x10, x11, x12⟩ := hR
  refine ⟨rT_fill hT hn hc, rU_fill hU hno, hC, hS, hP, h3, r2_fill h2 hno hd0, rB_fillP hB hD hP h3 h2 hC hS (by omega) hn hno hnt (by omega) (fun i hi => ?_), hD, ⟨fun f hf => ?_, hI.2⟩, x1, x2, x3, by rw [x4], x5, x6, x7, x8, x9, x10, x11, x12⟩
  · rw [pk_cpy_in (Nat.zero_le i) (by omega), Nat.sub_zero]
  · by_cases e : f = f0
    · subst e; rw [va_up_self]; exact fit_cpy hI.2 (hI.1 f hf)
    · rw [va_up_ne _ _ e]; exact hI.1 f hf

theorem R_dk {n : Nat} (hR : Rel pg pn us di bt dk lf wn rd en fl hd mnw mcp mcb mcv mcl mbl mpl mfm mto mfs mls mpg mpn mus mdi mst mbs mhd men mfl mrd mwn mlf pgN bN cpN cbN fmN toN sN lN u q c w) (hn : n < 192) (hw : w < 65535) : tb2 dk (n * 512) = mfs n ∧ tb2 dk (n * 512 + 510) = mls n ∧ mfs n = nI (sN n) := by
  obtain ⟨hT, hU, hC, hS, hP, h3, h2, hB, hD, hI, hX⟩ := hR
  obtain ⟨p1, p2, p3, p4⟩ := hP n hn
  have a0 := hD n hn 0 (by decide)
  have a1 := hD n hn 1 (by decide)
  have b0 := hD n hn 510 (by decide)
  have b1 := hD n hn 511 (by decide)
  rw [show n * 512 + 511 = n * 512 + 510 + 1 by omega] at b1
  rw [Nat.add_zero] at a0
  exact ⟨(gw_st (o := n * 512) a0 a1 p1 (by omega)).trans p1.symm, (gw_sl (o := n * 512 + 510) b0 b1 p2 (by omega)).trans p2.symm, p1⟩
theorem R_fillR {f0 n : Nat} (hR : Rel pg pn us di bt dk lf wn rd en fl hd mnw mcp mcb mcv mcl mbl mpl mfm mto mfs mls mpg mpn mus mdi mst mbs mhd men mfl mrd mwn mlf pgN bN cpN cbN fmN toN sN lN u q c w) (hf0 : f0 < 12) (hn : n < 192) (hno : ∀ f, f < 12 → pg f ≠ nI n) (hd0 : di f0 = 0) (hc : 1 ≤ c) (hw : w < 65535) : Rel (upd pg f0 (nI n)) (upd pn f0 1) (upd us f0 1) (upd di f0 0) (va_up bt f0 (psB (fun _ => 0) (tb2 dk (n * 512)))) dk lf wn rd en fl hd mnw mcp mcb mcv mcl mbl mpl mfm mto mfs mls (upd mpg f0 (nI n)) (upd mpn f0 1) (upd mus f0 1) (upd mdi f0 0) (upd mst f0 (mfs n)) (upd mbs f0 mnw) mhd men mfl mrd mwn mlf (va_up pgN f0 n) (va_up bN f0 u) cpN cbN fmN toN sN lN u q c w := by
  obtain ⟨e1, -, e2⟩ := R_dk hR hn hw
  obtain ⟨hT, hU, hC, hS, hP, h3, h2, hB, hD, hI, x1, x2, x3, x4, x5, x6, x7, x8, x9, x10, x11, x12⟩ := hR
  rw [e1]
  refine ⟨rT_fill hT hn hc, rU_fill hU hno, hC, hS, hP, h3, r2_fill h2 hno hd0, rB_fillR hB x10, hD, ⟨fun f hf => ?_, hI.2⟩, x1, x2, x3, x4, x5, x6, x7, x8, x9, x10, x11, x12⟩
  · by_cases e : f = f0
    · subst e; rw [va_up_self]; exact fit_psB (fun _ => rfl)
    · rw [va_up_ne _ _ e]; exact hI.1 f hf

theorem R_set {n k : Nat} {v pl : Int32} (hR : Rel pg pn us di bt dk lf wn rd en fl hd mnw mcp mcb mcv mcl mbl mpl mfm mto mfs mls mpg mpn mus mdi mst mbs mhd men mfl mrd mwn mlf pgN bN cpN cbN fmN toN sN lN u q c w) (hn : n < 12) (hp : pg n ≠ -1) (hk1 : 6 ≤ k) (hk2 : k ≤ 509) (hc : c + 1 < 519) : Rel pg pn us (upd di n 1) (va_up bt n (chB (bt n) k v pl)) dk lf wn rd en fl hd (mnw + 1) (upd mcp (u + 1) (nI (pgN n))) (upd mcb (u + 1) (nI k)) (upd mcv (u + 1) (v &&& 255)) (upd mcl (u + 1) pl) (upd mbl (u + 1) 0) (upd mpl (u + 1) 0) mfm mto mfs mls mpg mpn mus (upd mdi n 1) mst mbs mhd men mfl mrd mwn mlf pgN bN (va_up cpN (u + 1) (pgN n)) (va_up cbN (u + 1) k) fmN toN sN lN (u + 1) q (c + 1) w := by
  have hcu : u + 1 ≤ c + 1 := by
    have h9 := hR.2.2.2.2.2.2.2.2.2.2
    exact Nat.succ_le_succ h9.2.2.2.2.2.2.2.2.2.2.1
  have hR := R_mono (c' := c + 1) hR (by omega) hc (Nat.le_refl w)
  obtain ⟨hT, hU, hC, hS, hP, h3, h2, hB, hD, hI, x1, x2, x3, x4, x5, x6, x7, x8, x9, x10, x11, x12⟩ := hR
  obtain ⟨t1, t2, -⟩ := rT_pg hT hn hp
  refine ⟨rT_set hT hp, hU, rC_set hC t2 (by omega), rS_set hS, hP, h3, r2_set h2 hn t1 t2, rB_set hB hU hn t1 t2 hk1 hk2, rD_set hD hS, rI_set hI, x1, x2, x3, x4, x5, x6, x7, x8, x9, by rw [x10, nI_1], ?_, x12⟩
  exact hcu

theorem R_charge {x : Int32} (hR : Rel pg pn us di bt dk lf wn rd en fl hd mnw mcp mcb mcv mcl mbl mpl mfm mto mfs mls mpg mpn mus mdi mst mbs mhd men mfl mrd mwn mlf pgN bN cpN cbN fmN toN sN lN u q c w) (h1 : ¬ x < 0) (h2 : x ≤ 999) : Rel pg pn us di bt dk x wn rd en fl hd mnw mcp mcb mcv mcl mbl mpl mfm mto mfs mls mpg mpn mus mdi mst mbs mhd men mfl mrd mwn x pgN bN cpN cbN fmN toN sN lN u q c w := by
  obtain ⟨hT, hU, hC, hS, hP, h3, h4, hB, hD, hI, x1, x2, x3, x4, x5, x6, x7, x8, x9, x10, x11, x12⟩ := hR
  obtain ⟨j, hj, e⟩ := nI_of2 (M := 999) (n := 999) rfl h1 h2
  exact ⟨hT, hU, hC, hS, hP, h3, h4, hB, hD, hI, rfl, Or.inr ⟨j, by omega, e⟩, x3, x4, x5, x6, x7, x8, x9, x10, x11, x12⟩
theorem R_flush {x : Int32} (hR : Rel pg pn us di bt dk lf wn rd en fl hd mnw mcp mcb mcv mcl mbl mpl mfm mto mfs mls mpg mpn mus mdi mst mbs mhd men mfl mrd mwn mlf pgN bN cpN cbN fmN toN sN lN u q c w) : Rel pg pn us di bt dk lf wn rd x fl hd mnw mcp mcb mcv mcl mbl mpl mfm mto mfs mls mpg mpn mus mdi mst mbs mhd x mfl mrd mwn mlf pgN bN cpN cbN fmN toN sN lN u q c w := by
  obtain ⟨hT, hU, hC, hS, hP, h3, h4, hB, hD, hI, x1, x2, x3, x4, x5, x6, x7, x8, x9, x10, x11, x12⟩ := hR
  exact ⟨hT, hU, hC, hS, hP, h3, h4, hB, hD, hI, x1, x2, x3, x4, rfl, x6, x7, x8, x9, x10, x11, x12⟩
theorem R_tab {j : Nat} {a b a2 b2 : Int32} {n v : Nat} (hR : Rel pg pn us di bt dk lf wn rd en fl hd mnw mcp mcb mcv mcl mbl mpl mfm mto mfs mls mpg mpn mus mdi mst mbs mhd men mfl mrd mwn mlf pgN bN cpN cbN fmN toN sN lN u q c w) (hp : pg j ≠ -1) (ha : a = nI n) (hn : n ≤ c) (hb : b = nI v) (hv : v ≤ 3) (ea : a2 = a) (eb : b2 = b) : Rel pg (upd pn j a) (upd us j b) di bt dk lf wn rd en fl hd mnw mcp mcb mcv mcl mbl mpl mfm mto mfs mls mpg (upd mpn j a2) (upd mus j b2) mdi mst mbs mhd men mfl mrd mwn mlf pgN bN cpN cbN fmN toN sN lN u q c w := by
  subst ea
  subst eb
  obtain ⟨hT, hU, hC, hS, hP, h3, h4, hB, hD, hI, hX⟩ := hR
  refine ⟨fun f hf => ?_, hU, hC, hS, hP, h3, h4, hB, hD, hI, hX⟩
  obtain ⟨t1, t2, t3, t4⟩ := hT f hf
  by_cases e : f = j
  · subst e
    rw [pk_us, pk_us, pk_us, pk_us]
    rcases t2 with g | g
    · exact absurd g.1 hp
    · exact ⟨t1, Or.inr ⟨g.1, g.2.1, rfl, rfl, g.2.2.2.2⟩, ⟨n, hn, ha⟩, ⟨v, hv, hb⟩⟩
  · rw [pk_un e, pk_un e, pk_un e, pk_un e]
    exact ⟨t1, t2, t3, t4⟩
end REL
theorem R_init : Rel (fun _ => -1) (fun _ => 0) (fun _ => 0) (fun _ => 0) (fun _ _ => 0) (fun _ => 0) (-1) 0 0 0 0 0 0 (fun _ => 0) (fun _ => 0) (fun _ => 0) (fun _ => 0) (fun _ => 0) (fun _ => 0) (fun _ => 0) (fun _ => 0) (fun _ => 0) (fun _ => 0) (dropF (-1) (fun _ => 0) 12) (fun _ => 0) (fun _ => 0) (fun _ => 0) (fun _ => 0) (fun _ => 0) 0 0 0 0 0 (-1) (fun _ => 0) (fun _ => 0) (fun _ => 0) (fun _ => 0) (fun _ => 0) (fun _ => 0) (fun _ => 0) (fun _ => 0) 0 0 0 0 := by
  refine ⟨fun f hf => ⟨?_, Or.inl ⟨rfl, rfl, rfl, rfl⟩, ⟨0, Nat.le_refl 0, rfl⟩, ⟨0, Nat.zero_le _, rfl⟩⟩, fun f g _ _ h => absurd rfl h, fun e h1 h2 => absurd h1 (by omega), fun j _ => ⟨rfl, rfl, Nat.le_refl 0, Nat.le_refl 0⟩, fun p _ => ⟨rfl, rfl, Nat.le_refl 0, Nat.le_refl 0⟩, fun p _ _ s _ => ⟨rfl, rfl⟩, fun p _ _ e h1 h2 => absurd h1 (by omega), fun f _ h => absurd rfl h, fun p _ i hi => ?_, ⟨fun _ _ _ => rfl, fun _ => rfl⟩, rfl, Or.inl rfl, rfl, rfl, rfl, rfl, rfl, rfl, by decide, rfl, Nat.le_refl 0, by decide⟩
  · exact dropF_in hf
  · show (0 : Int32) &&& 255 = gw 0 0 0 (fun _ => 0) i
    unfold gw
    rw [show tn 0 = 0 from rfl, Nat.zero_div, Nat.zero_div, Nat.zero_div]
    split
    · rfl
    · split
      · rfl
      · split <;> rfl
