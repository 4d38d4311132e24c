/-! PIN AND REMAKE ON BOTH SIDES -/
theorem RW_mk {pg pn us di : Nat → Int32} {bt : Nat → Nat → Int32} {dk : Nat → Int32} {lf wn rd en fl hd : Int32} {mnw : Int32} {mcp mcb mcv mcl mbl mpl mfm mto mfs mls mpg mpn mus mdi mst mbs : Nat → Int32} {mhd men mfl mrd mwn mlf : Int32} {pgN bN cpN cbN fmN toN sN lN : Nat → Nat} {u q c w : Nat} {h dr db lg fa : Nat} {fr fb : Nat → Nat} {ka : Nat → ClassId} {h2 : Nat} {ad : Nat → Nat} {mth : Int32} (hR : Rel pg pn us di bt dk lf wn rd en fl hd mnw mcp mcb mcv mcl mbl mpl mfm mto mfs mls mpg mpn mus mdi mst mbs mhd men mfl mrd mwn mlf pgN bN cpN cbN fmN toN sN lN u q c w) : RW h dr db lg fa fr fb ka h2 ad mth c w (dw h dr db lg fa fr fb ka pg pn us di bt dk lf wn rd en fl hd) (mw h2 ad ka mth mnw mcp mcb mcv mcl mbl mpl mfm mto mfs mls mpg mpn mus mdi mst mbs mhd men mfl mrd mwn mlf) :=
  ⟨pg, pn, us, di, bt, dk, lf, wn, rd, en, fl, hd, mnw, mcp, mcb, mcv, mcl, mbl, mpl, mfm, mto, mfs, mls, mpg, mpn, mus, mdi, mst, mbs, mhd, men, mfl, mrd, mwn, mlf, pgN, bN, cpN, cbN, fmN, toN, sN, lN, u, q, rfl, rfl, hR⟩
theorem us_eq {v : Nat} (h : v ≤ 3) : ∃ b, b ≤ 3 ∧ (if (3 : Int32) < nI v + 1 then (3 : Int32) else nI v + 1) = nI b ∧ (if (3 : Int32) ≤ nI v then (3 : Int32) else nI v + 1) = nI b := by
  rcases (show v = 0 ∨ v = 1 ∨ v = 2 ∨ v = 3 by omega) with rfl | rfl | rfl | rfl
  · exact ⟨1, by decide, by decide, by decide⟩
  · exact ⟨2, by decide, by decide, by decide⟩
  · exact ⟨3, by decide, by decide, by decide⟩
  · exact ⟨3, by decide, by decide, by decide⟩
theorem fs8_eq {mfs mls : Nat → Int32} {np n : Nat} {v : Int32} (h : mfs n = mls n) : fsF mfs np v 8 n = lsF mls np v 8 n := by
  unfold fsF lsF
  rw [if_neg (by decide), if_neg (by decide)]
  by_cases e : n = np
  · rw [e, pk_us, pk_us]
  · rw [pk_un e, pk_un e, h]

set_option maxHeartbeats 4000000 in
theorem S_pin (l : Launch) (dC : Nat → ClassId) (dI : Nat → Nat → Nat) (ka : Nat → ClassId) (h dr db lg fa : Nat) (fr fb : Nat → Nat) (h2 : Nat) (ad : Nat → Nat) (mth : Int32) (c w : Nat) (W M : va_W) (hst : l.stackTraces = false) (hRW : RW h dr db lg fa fr fb ka h2 ad mth c w W M) (hc : c + 1 < 519) (hw : w + 1 < 65535) (x : Int32) : ∃ (W' M' : va_W) (k b : Int32), RW h dr db lg fa fr fb ka h2 ad k (c + 1) (w + 1) W' M' ∧ oI l dC dI ka yM_pin wM_pin [.ref h2, .int x] M M' b ∧ ((k = 0 ∧ oI l dC dI ka yB_pin wB_pin [.ref h, .int x] W W' b) ∨ (k = 1 ∧ oX l dC dI ka yB_pin wB_pin [.ref h, .int x] W W' xIAE) ∨ (k = 2 ∧ oX l dC dI ka yB_pin wB_pin [.ref h, .int x] W W' xISE) ∨ (k = 3 ∧ oX l dC dI ka yB_pin wB_pin [.ref h, .int x] W W' xNSE) ∨ (k = 4 ∧ oX l dC dI ka yB_pin wB_pin [.ref h, .int x] W W' xUOE)) := by
  obtain ⟨pg, pn, us, di, bt, dk, lf, wn, rd, en, fl, hd, mnw, mcp, mcb, mcv, mcl, mbl, mpl, mfm, mto, mfs, mls, mpg, mpn, mus, mdi, mst, mbs, mhd, men, mfl, mrd, mwn, mlf, pgN, bN, cpN, cbN, fmN, toN, sN, lN, u, q, rfl, rfl, hR⟩ := hRW
  have x7 : mhd = nI q := hR.2.2.2.2.2.2.2.2.2.2.2.2.2.2.2.2.1
  have x8 : hd = nI q := hR.2.2.2.2.2.2.2.2.2.2.2.2.2.2.2.2.2.1
  have hq : q < 12 := hR.2.2.2.2.2.2.2.2.2.2.2.2.2.2.2.2.2.2.1
  have eu : mnw = nI u := hR.2.2.2.2.2.2.2.2.2.2.2.2.2.2.2.2.2.2.2.1
  have hu : u ≤ c := hR.2.2.2.2.2.2.2.2.2.2.2.2.2.2.2.2.2.2.2.2.1
  subst x7
  subst x8
  have hR1 := R_mono (c' := c + 1) (w' := w + 1) hR (by omega) hc (by omega)
  have hR0 := R_mono (c' := c + 1) (w' := w) hR (by omega) hc (Nat.le_refl w)
  rcases tk_ix (x := x) 192 (by decide) with hx0 | ⟨n, hn, rfl⟩
  · exact ⟨_, _, 1, 0, RW_mk hR1, ⟨_, _, by decide, by decide, fun sz => c_M_pin_p0 l dC dI ka sz h2 ad mth mnw mcp mcb mcv mcl mbl mpl mfm mto mfs mls mpg mpn mus mdi mst mbs (nI q) men mfl mrd mwn mlf x hx0⟩, Or.inr (Or.inl (⟨rfl, ⟨_, _, by decide, by decide, fun sa sz => c_B_pin_p0 l hst dC dI ka sa sz h dr db lg fa fr fb pg pn us di bt dk lf wn rd en fl (nI q) x hx0⟩⟩))⟩
  rcases R_find hR hn with ⟨j, hj, hfw, hfo, hpj⟩ | ⟨hno, hfo⟩
  · obtain ⟨-, -, epn, eus, -⟩ := rT_pg hR.1 hj hpj
    obtain ⟨-, -, ⟨a, ha, ea⟩, ⟨v, hv, ev⟩⟩ := hR.1 j hj
    obtain ⟨b, hb, eb1, eb2⟩ := us_eq hv
    refine ⟨_, _, 0, nI j, RW_mk (R_tab (j := j) (a := pn j + 1) (b := if 3 < us j + 1 then 3 else us j + 1) (a2 := mpn j + 1) (b2 := if 3 ≤ mus j then 3 else mus j + 1) (n := a + 1) (v := b) hR1 hpj (by rw [ea, nI_1]) (by omega) (by rw [ev]; exact eb1) hb (by rw [epn]) (by rw [eus, ev, eb1, eb2])), ⟨_, _, by decide, by decide, fun sz => c_M_pin_h l dC dI ka sz h2 ad mth mnw mcp mcb mcv mcl mbl mpl mfm mto mfs mls mpg mpn mus mdi mst mbs (nI q) men mfl mrd mwn mlf (nI n) n j rfl hn hj hfo⟩, Or.inl (⟨rfl, ⟨_, _, by decide, by decide, fun sz => c_B_pin_h l dC dI ka sz h dr db lg fa fr fb pg pn us di bt dk lf wn rd en fl (nI q) (nI n) n j rfl hn hj hfw⟩⟩)⟩
  rcases R_pins hR with ⟨hap, hapM⟩ | ⟨hap, hapM, i0, hi0, hp0⟩
  · exact ⟨_, _, 2, 0, RW_mk hR1, ⟨_, _, by decide, by decide, fun sz => c_M_pin_a0 l dC dI ka sz h2 ad mth mnw mcp mcb mcv mcl mbl mpl mfm mto mfs mls mpg mpn mus mdi mst mbs (nI q) men mfl mrd mwn mlf (nI n) n rfl hn hfo hapM⟩, Or.inr (Or.inr (Or.inl (⟨rfl, ⟨_, _, by decide, by decide, fun sa sz => c_B_pin_a0 l hst dC dI ka sa sz h dr db lg fa fr fb pg pn us di bt dk lf wn rd en fl (nI q) (nI n) n rfl hn hno hap⟩⟩)))⟩
  obtain ⟨ed1, ed2, -⟩ := R_dk hR hn (by omega)
  by_cases hnt : ¬ mfs n = mls n
  · exact ⟨_, _, 3, 0, RW_mk hR1, ⟨_, _, by decide, by decide, fun sz => c_M_pin_t l dC dI ka sz h2 ad mth mnw mcp mcb mcv mcl mbl mpl mfm mto mfs mls mpg mpn mus mdi mst mbs (nI q) men mfl mrd mwn mlf (nI n) n rfl hn hfo hapM hnt⟩, Or.inr (Or.inr (Or.inr (Or.inl (⟨rfl, ⟨_, _, by decide, by decide, fun sa sz => c_B_pin_t l hst dC dI ka sa sz h dr db lg fa fr fb pg pn us di bt dk lf wn rd en fl (nI q) (nI n) n rfl hn hno hap (by rw [ed1, ed2]; exact hnt)⟩⟩))))⟩
  have hnt : mfs n = mls n := Decidable.not_not.mp hnt
  have hntB : tb2 dk (n * 512) = tb2 dk (n * 512 + 510) := by rw [ed1, ed2]; exact hnt
  rcases R_free hR hi0 hp0 with ⟨f0, hf0, hfw, hfe, hd0, hfl⟩ | ⟨hne, hall, hus0, u1, u2, f0, hf0, hHB, hHB2, ht1, ht2, hmd, hh⟩
  · refine ⟨_, _, 0, nI f0, RW_mk (R_fillP (f0 := f0) (n := n) hR1 hf0 hn hno hnt hd0 (by omega) (by omega)), ⟨_, _, by decide, by decide, fun sz => c_M_pin_e l dC dI ka sz h2 ad mth mnw mcp mcb mcv mcl mbl mpl mfm mto mfs mls mpg mpn mus mdi mst mbs (nI q) men mfl mrd mwn mlf (nI n) n f0 rfl hn hfo hapM hnt hf0 hfe hfl⟩, Or.inl (⟨rfl, ⟨_, _, by decide, by decide, fun sz => c_B_pin_in l dC dI ka sz h dr db lg fa fr fb pg pn us di bt dk lf wn rd en fl q (nI n) n f0 us di bt dk lf wn en fl (nI q) rfl hn hno hap hntB (hR.2.2.2.2.2.2.2.2.2.1).2 hq ⟨hf0, Or.inl ⟨hfw, rfl, rfl, rfl, rfl, rfl, rfl, rfl, rfl, rfl⟩⟩⟩⟩)⟩
  have hRh := R_hand (q2 := nxt f0) hR0 nxt_lt hh
  by_cases hd0 : di f0 = 0
  · refine ⟨_, _, 0, nI f0, RW_mk (R_mono (c' := c + 1) (w' := w + 1) (R_fillP (f0 := f0) (n := n) hRh hf0 hn hno hnt hd0 (by omega) (by omega)) (by omega) hc (by omega)), ⟨_, _, by decide, by decide, fun sz => c_M_pin_c l dC dI ka sz h2 ad mth mnw mcp mcb mcv mcl mbl mpl mfm mto mfs mls mpg mpn mus mdi mst mbs men mfl mrd mwn mlf q (nI n) n f0 u2 rfl hn hfo hapM hnt hall hq hf0 hus0 hHB2 ⟨ht1, ht2⟩ (hmd.trans hd0)⟩, Or.inl (⟨rfl, ⟨_, _, by decide, by decide, fun sz => c_B_pin_in l dC dI ka sz h dr db lg fa fr fb pg pn us di bt dk lf wn rd en fl q (nI n) n f0 u1 di bt dk lf wn en fl (nI (nxt f0)) rfl hn hno hap hntB (hR.2.2.2.2.2.2.2.2.2.1).2 hq ⟨hf0, Or.inr ⟨hne, hHB, rfl, Or.inl ⟨hd0, rfl, rfl, rfl, rfl, rfl, rfl, rfl⟩⟩⟩⟩⟩)⟩
  have hpg0 := hne f0 hf0
  obtain ⟨es, et, ep, t1, m1, t2, b1, b2, hs⟩ := R_st hR hf0 hpg0 (by omega)
  have hF : sb_Fit (bt f0) := (hR.2.2.2.2.2.2.2.2.2.1).1 f0 hf0
  rcases lf_or lf with hok | ⟨mm, hm8, hnz, h0⟩
  · have hRw := R_write (i := f0) hRh hf0 hpg0 (by omega)
    refine ⟨_, _, 0, nI f0, RW_mk (R_fillP (f0 := f0) (n := n) hRw hf0 hn hno (fs8_eq hnt) pk_us (by omega) (by omega)), ⟨_, _, by decide, by decide, fun sz => c_M_pin_d l dC dI ka sz h2 ad mth mnw mcp mcb mcv mcl mbl mpl mfm mto mfs mls mpg mpn mus mdi mst mbs men mfl mrd mwn mlf q (nI n) n f0 (pgN f0) (bN f0) u u2 rfl hn hfo hapM hnt hall hq hf0 hus0 hHB2 ⟨ht1, ht2⟩ (fun g => hd0 (hmd.symm.trans g)) m1 t2 b1 eu b2 (by omega) (fun z hz g => hok z hz ((R_lf hR z).symm.trans g))⟩, Or.inl (⟨rfl, ⟨_, _, by decide, by decide, fun sz => c_B_pin_in l dC dI ka sz h dr db lg fa fr fb pg pn us di bt dk lf wn rd en fl q (nI n) n f0 u1 (upd di f0 0) (va_up bt f0 (psB (bt f0) (tb2 (bt f0) 0 + 1))) (wrD dk ((va_up bt f0 (psB (bt f0) (tb2 (bt f0) 0 + 1))) f0) (pgN f0) 8) (lfA lf 8) (wn + nI 8) (if en < plB (bt f0) then plB (bt f0) else en) (if en < plB (bt f0) then fl + 1 else fl) (nI (nxt f0)) rfl hn hno hap hntB (hRw.2.2.2.2.2.2.2.2.2.1).2 hq ⟨hf0, Or.inr ⟨hne, hHB, rfl, Or.inr ⟨hd0, pgN f0, t1, t2, hF, hok, rfl, rfl, rfl, rfl, rfl, rfl, rfl⟩⟩⟩⟩⟩)⟩
  · have hRc := R_cut (i := f0) (mm := mm) hRh hf0 hpg0 (by omega) hm8
    refine ⟨_, _, 4, 0, RW_mk hRc, ⟨_, _, by decide, by decide, fun sz => c_M_pin_x l dC dI ka sz h2 ad mth mnw mcp mcb mcv mcl mbl mpl mfm mto mfs mls mpg mpn mus mdi mst mbs men mfl mrd mwn mlf q (nI n) n f0 (pgN f0) (bN f0) u mm u2 cpN cbN rfl hn hfo hapM hnt hall hq hf0 hus0 hHB2 ⟨ht1, ht2⟩ (fun g => hd0 (hmd.symm.trans g)) m1 t2 b1 eu b2 (by omega) (fun e h1 h2 => hR.2.2.1 e h1 h2) hm8 (fun z hz g => hnz z hz ((R_lf hR z).symm.trans g)) ((R_lf hR mm).trans h0)⟩, Or.inr (Or.inr (Or.inr (Or.inr (⟨rfl, ⟨_, _, by decide, by decide, fun sa sz => c_B_pin_x l hst dC dI ka sa sz h dr db lg fa fr fb pg pn us di bt dk lf wn rd en fl q (nI n) n f0 (pgN f0) mm u1 rfl hn hno hap hntB hne hq hHB hf0 hd0 t1 t2 hF hm8 hnz h0⟩⟩))))⟩

set_option maxHeartbeats 4000000 in
theorem S_remake (l : Launch) (dC : Nat → ClassId) (dI : Nat → Nat → Nat) (ka : Nat → ClassId) (h dr db lg fa : Nat) (fr fb : Nat → Nat) (h2 : Nat) (ad : Nat → Nat) (mth : Int32) (c w : Nat) (W M : va_W) (hst : l.stackTraces = false) (hRW : RW h dr db lg fa fr fb ka h2 ad mth c w W M) (hc : c + 1 < 519) (hw : w + 1 < 65535) (x : Int32) : ∃ (W' M' : va_W) (k b : Int32), RW h dr db lg fa fr fb ka h2 ad k (c + 1) (w + 1) W' M' ∧ oI l dC dI ka yM_remake wM_remake [.ref h2, .int x] M M' b ∧ ((k = 0 ∧ oI l dC dI ka yB_remake wB_remake [.ref h, .int x] W W' b) ∨ (k = 1 ∧ oX l dC dI ka yB_remake wB_remake [.ref h, .int x] W W' xIAE) ∨ (k = 2 ∧ oX l dC dI ka yB_remake wB_remake [.ref h, .int x] W W' xISE) ∨ (k = 3 ∧ oX l dC dI ka yB_remake wB_remake [.ref h, .int x] W W' xUOE)) := by
  obtain ⟨pg, pn, us, di, bt, dk, lf, wn, rd, en, fl, hd, mnw, mcp, mcb, mcv, mcl, mbl, mpl, mfm, mto, mfs, mls, mpg, mpn, mus, mdi, mst, mbs, mhd, men, mfl, mrd, mwn, mlf, pgN, bN, cpN, cbN, fmN, toN, sN, lN, u, q, rfl, rfl, hR⟩ := hRW
  have x7 : mhd = nI q := hR.2.2.2.2.2.2.2.2.2.2.2.2.2.2.2.2.1
  have x8 : hd = nI q := hR.2.2.2.2.2.2.2.2.2.2.2.2.2.2.2.2.2.1
  have hq : q < 12 := hR.2.2.2.2.2.2.2.2.2.2.2.2.2.2.2.2.2.2.1
  have eu : mnw = nI u := hR.2.2.2.2.2.2.2.2.2.2.2.2.2.2.2.2.2.2.2.1
  have hu : u ≤ c := hR.2.2.2.2.2.2.2.2.2.2.2.2.2.2.2.2.2.2.2.2.1
  subst x7
  subst x8
  have hR1 := R_mono (c' := c + 1) (w' := w + 1) hR (by omega) hc (by omega)
  have hR0 := R_mono (c' := c + 1) (w' := w) hR (by omega) hc (Nat.le_refl w)
  rcases tk_ix (x := x) 192 (by decide) with hx0 | ⟨n, hn, rfl⟩
  · exact ⟨_, _, 1, 0, RW_mk hR1, ⟨_, _, by decide, by decide, fun sz => c_M_remake_p0 l dC dI ka sz h2 ad mth mnw mcp mcb mcv mcl mbl mpl mfm mto mfs mls mpg mpn mus mdi mst mbs (nI q) men mfl mrd mwn mlf x hx0⟩, Or.inr (Or.inl (⟨rfl, ⟨_, _, by decide, by decide, fun sa sz => c_B_remake_p0 l hst dC dI ka sa sz h dr db lg fa fr fb pg pn us di bt dk lf wn rd en fl (nI q) x hx0⟩⟩))⟩
  rcases R_find hR hn with ⟨j, hj, hfw, hfo, hpj⟩ | ⟨hno, hfo⟩
  · exact ⟨_, _, 2, 0, RW_mk hR1, ⟨_, _, by decide, by decide, fun sz => c_M_remake_h l dC dI ka sz h2 ad mth mnw mcp mcb mcv mcl mbl mpl mfm mto mfs mls mpg mpn mus mdi mst mbs (nI q) men mfl mrd mwn mlf (nI n) n j rfl hn hj hfo⟩, Or.inr (Or.inr (Or.inl (⟨rfl, ⟨_, _, by decide, by decide, fun sa sz => c_B_remake_h l hst dC dI ka sa sz h dr db lg fa fr fb pg pn us di bt dk lf wn rd en fl (nI q) (nI n) n j rfl hn hj hfw⟩⟩)))⟩
  rcases R_pins hR with ⟨hap, hapM⟩ | ⟨hap, hapM, i0, hi0, hp0⟩
  · exact ⟨_, _, 2, 0, RW_mk hR1, ⟨_, _, by decide, by decide, fun sz => c_M_remake_a0 l dC dI ka sz h2 ad mth mnw mcp mcb mcv mcl mbl mpl mfm mto mfs mls mpg mpn mus mdi mst mbs (nI q) men mfl mrd mwn mlf (nI n) n rfl hn hfo hapM⟩, Or.inr (Or.inr (Or.inl (⟨rfl, ⟨_, _, by decide, by decide, fun sa sz => c_B_remake_a0 l hst dC dI ka sa sz h dr db lg fa fr fb pg pn us di bt dk lf wn rd en fl (nI q) (nI n) n rfl hn hno hap⟩⟩)))⟩
  rcases R_free hR hi0 hp0 with ⟨f0, hf0, hfw, hfe, hd0, hfl⟩ | ⟨hne, hall, hus0, u1, u2, f0, hf0, hHB, hHB2, ht1, ht2, hmd, hh⟩
  · refine ⟨_, _, 0, nI f0, RW_mk (R_fillR (f0 := f0) (n := n) hR1 hf0 hn hno hd0 (by omega) (by omega)), ⟨_, _, by decide, by decide, fun sz => c_M_remake_e l dC dI ka sz h2 ad mth mnw mcp mcb mcv mcl mbl mpl mfm mto mfs mls mpg mpn mus mdi mst mbs (nI q) men mfl mrd mwn mlf (nI n) n f0 rfl hn hfo hapM hf0 hfe hfl⟩, Or.inl (⟨rfl, ⟨_, _, by decide, by decide, fun sz => c_B_remake_in l dC dI ka sz h dr db lg fa fr fb pg pn us di bt dk lf wn rd en fl q (nI n) n f0 us di bt dk lf wn en fl (nI q) rfl hn hno hap  hq ⟨hf0, Or.inl ⟨hfw, rfl, rfl, rfl, rfl, rfl, rfl, rfl, rfl, rfl⟩⟩⟩⟩)⟩
  have hRh := R_hand (q2 := nxt f0) hR0 nxt_lt hh
  by_cases hd0 : di f0 = 0
  · refine ⟨_, _, 0, nI f0, RW_mk (R_mono (c' := c + 1) (w' := w + 1) (R_fillR (f0 := f0) (n := n) hRh hf0 hn hno hd0 (by omega) (by omega)) (by omega) hc (by omega)), ⟨_, _, by decide, by decide, fun sz => c_M_remake_c l dC dI ka sz h2 ad mth mnw mcp mcb mcv mcl mbl mpl mfm mto mfs mls mpg mpn mus mdi mst mbs men mfl mrd mwn mlf q (nI n) n f0 u2 rfl hn hfo hapM hall hq hf0 hus0 hHB2 ⟨ht1, ht2⟩ (hmd.trans hd0)⟩, Or.inl (⟨rfl, ⟨_, _, by decide, by decide, fun sz => c_B_remake_in l dC dI ka sz h dr db lg fa fr fb pg pn us di bt dk lf wn rd en fl q (nI n) n f0 u1 di bt dk lf wn en fl (nI (nxt f0)) rfl hn hno hap  hq ⟨hf0, Or.inr ⟨hne, hHB, rfl, Or.inl ⟨hd0, rfl, rfl, rfl, rfl, rfl, rfl, rfl⟩⟩⟩⟩⟩)⟩
  have hpg0 := hne f0 hf0
  obtain ⟨es, et, ep, t1, m1, t2, b1, b2, hs⟩ := R_st hR hf0 hpg0 (by omega)
  have hF : sb_Fit (bt f0) := (hR.2.2.2.2.2.2.2.2.2.1).1 f0 hf0
  rcases lf_or lf with hok | ⟨mm, hm8, hnz, h0⟩
  · have hRw := R_write (i := f0) hRh hf0 hpg0 (by omega)
    refine ⟨_, _, 0, nI f0, RW_mk (R_fillR (f0 := f0) (n := n) hRw hf0 hn hno pk_us (by omega) (by omega)), ⟨_, _, by decide, by decide, fun sz => c_M_remake_d l dC dI ka sz h2 ad mth mnw mcp mcb mcv mcl mbl mpl mfm mto mfs mls mpg mpn mus mdi mst mbs men mfl mrd mwn mlf q (nI n) n f0 (pgN f0) (bN f0) u u2 rfl hn hfo hapM hall hq hf0 hus0 hHB2 ⟨ht1, ht2⟩ (fun g => hd0 (hmd.symm.trans g)) m1 t2 b1 eu b2 (by omega) (fun z hz g => hok z hz ((R_lf hR z).symm.trans g))⟩, Or.inl (⟨rfl, ⟨_, _, by decide, by decide, fun sz => c_B_remake_in l dC dI ka sz h dr db lg fa fr fb pg pn us di bt dk lf wn rd en fl q (nI n) n f0 u1 (upd di f0 0) (va_up bt f0 (psB (bt f0) (tb2 (bt f0) 0 + 1))) (wrD dk ((va_up bt f0 (psB (bt f0) (tb2 (bt f0) 0 + 1))) f0) (pgN f0) 8) (lfA lf 8) (wn + nI 8) (if en < plB (bt f0) then plB (bt f0) else en) (if en < plB (bt f0) then fl + 1 else fl) (nI (nxt f0)) rfl hn hno hap  hq ⟨hf0, Or.inr ⟨hne, hHB, rfl, Or.inr ⟨hd0, pgN f0, t1, t2, hF, hok, rfl, rfl, rfl, rfl, rfl, rfl, rfl⟩⟩⟩⟩⟩)⟩
  · have hRc := R_cut (i := f0) (mm := mm) hRh hf0 hpg0 (by omega) hm8
    refine ⟨_, _, 3, 0, RW_mk hRc, ⟨_, _, by decide, by decide, fun sz => c_M_remake_x l dC dI ka sz h2 ad mth mnw mcp mcb mcv mcl mbl mpl mfm mto mfs mls mpg mpn mus mdi mst mbs men mfl mrd mwn mlf q (nI n) n f0 (pgN f0) (bN f0) u mm u2 cpN cbN rfl hn hfo hapM hall hq hf0 hus0 hHB2 ⟨ht1, ht2⟩ (fun g => hd0 (hmd.symm.trans g)) m1 t2 b1 eu b2 (by omega) (fun e h1 h2 => hR.2.2.1 e h1 h2) hm8 (fun z hz g => hnz z hz ((R_lf hR z).symm.trans g)) ((R_lf hR mm).trans h0)⟩, Or.inr (Or.inr (Or.inr (⟨rfl, ⟨_, _, by decide, by decide, fun sa sz => c_B_remake_x l hst dC dI ka sa sz h dr db lg fa fr fb pg pn us di bt dk lf wn rd en fl q (nI n) n f0 (pgN f0) mm u1 rfl hn hno hap hne hq hHB hf0 hd0 t1 t2 hF hm8 hnz h0⟩⟩)))⟩
