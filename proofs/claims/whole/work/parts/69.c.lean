set_option maxHeartbeats 4000000 in
theorem S_sweep (l : Launch) (dC : Nat → ClassId) (dI : Nat → Nat → Nat) (ka : Nat → ClassId) (h dr db lg fa : Nat) (fr fb : Nat → Nat) (h2 : Nat) (ad : Nat → Nat) (mth : Int32) (c w : Nat) (W M : va_W) (hst : l.stackTraces = false) (hRW : RW h dr db lg fa fr fb ka h2 ad mth c w W M) (hc : c + 1 < 519) (hw : w + 12 < 65535) : ∃ (W' M' : va_W) (k b : Int32), RW h dr db lg fa fr fb ka h2 ad k (c + 1) (w + 12) W' M' ∧ oI l dC dI ka yM_sweep wM_sweep [.ref h2] M M' b ∧ ((k = 0 ∧ oI l dC dI ka yB_sweep wB_sweep [.ref h] W W' b) ∨ (k = 1 ∧ oX l dC dI ka yB_sweep wB_sweep [.ref h] W W' xUOE)) := by
  obtain ⟨pg, pn, us, di, bt, dk, lf, wn, rd, en, fl, hd, mnw, mcp, mcb, mcv, mcl, mbl, mpl, mfm, mto, mfs, mls, mpg, mpn, mus, mdi, mst, mbs, mhd, men, mfl, mrd, mwn, mlf, pgN, bN, cpN, cbN, fmN, toN, sN, lN, u, q, rfl, rfl, hR⟩ := hRW
  have x7 : mhd = nI q := hR.2.2.2.2.2.2.2.2.2.2.2.2.2.2.2.2.1
  have x8 : hd = nI q := hR.2.2.2.2.2.2.2.2.2.2.2.2.2.2.2.2.2.1
  have hq : q < 12 := hR.2.2.2.2.2.2.2.2.2.2.2.2.2.2.2.2.2.2.1
  have eu : mnw = nI u := hR.2.2.2.2.2.2.2.2.2.2.2.2.2.2.2.2.2.2.2.1
  have hu : u ≤ c := hR.2.2.2.2.2.2.2.2.2.2.2.2.2.2.2.2.2.2.2.2.1
  subst x7
  subst x8
  have hR1 := R_mono (c' := c + 1) (w' := w + 12) hR (by omega) hc (by omega)
  have hR0 := R_mono (c' := c + 1) (w' := w) hR (by omega) hc (Nat.le_refl w)
  have hRS : RS pg pn us rd (nI q) mnw mcp mcb mcv mcl mbl mpl mpg mpn mus mbs (nI q) mrd pgN bN cpN cbN u q (c + 1) (di, bt, dk, lf, wn, en, fl) (mfl, men, mst, mlf, mwn, mfm, mto, mfs, mls, mdi) w := ⟨fmN, toN, sN, lN, hR0⟩
  have hF : ∀ f, f < 12 → sb_Fit (bt f) := (hR.2.2.2.2.2.2.2.2.2.1).1
  have hch : ∀ e, 1 ≤ e → e ≤ u → mcp e = nI (cpN e) ∧ cpN e < 192 ∧ mcb e = nI (cbN e) ∧ cbN e < 512 := fun e h1 h2 => hR.2.2.1 e h1 h2
  have hfo0 : ∀ p : Nat, ∃ f : Nat, p < 192 → (f < 12 ∧ pg f = nI p ∧ foM mpg (nI p) 12 = nI f) ∨ (¬ f < 12 ∧ (∀ g, g < 12 → pg g ≠ nI p) ∧ foM mpg (nI p) 12 = -1) := by
    intro p
    by_cases hp : p < 192
    · rcases R_find hR hp with ⟨j, hj, hfw, hfo, hpj⟩ | ⟨hno, hfo⟩
      · refine ⟨j, fun _ => Or.inl ⟨hj, ?_, hfo⟩⟩
        rcases hfw with g | ⟨i, hi, e, hg, -⟩
        · exact absurd g.1 (nI_m1 (by omega))
        · have := (nI_eq (by omega) (by omega)).mp e
          rw [this]; exact hg
      · exact ⟨12, fun _ => Or.inr ⟨by omega, hno, hfo⟩⟩
    · exact ⟨0, fun h => absurd h hp⟩
  obtain ⟨fo, hfo⟩ := Classical.axiomOfChoice hfo0
  have hfp : ∀ p, p < 192 → fo p < 12 → pg (fo p) = nI p := fun p hp hf => by
    rcases hfo p hp with g | g
    · exact g.2.1
    · exact absurd hf g.1
  have hfpn : ∀ p, p < 192 → fo p < 12 → pg (fo p) ≠ -1 := fun p hp hf => by rw [hfp p hp hf]; exact nI_m1 (by omega)
  have hfoR : foR pg di pgN fo := by
    refine ⟨hfp, fun f hf hd => ?_⟩
    have hpf := rT_di hR.1 hf hd
    have t := rT_pg hR.1 hf hpf
    refine ⟨t.1, t.2.1, ?_⟩
    rcases hfo (pgN f) t.2.1 with g | g
    · exact hR.2.1 _ _ g.1 hf (by rw [g.2.1]; exact nI_m1 (by omega)) (g.2.1.trans t.1.symm)
    · exact absurd t.1 (g.2.1 f hf)
  have hfoM : ∀ p, p < 192 → (fo p < 12 → foM mpg (nI p) 12 = nI (fo p)) ∧ (¬ fo p < 12 → foM mpg (nI p) 12 = -1) := fun p hp => by
    rcases hfo p hp with g | g
    · exact ⟨fun _ => g.2.2, fun z => absurd g.1 z⟩
    · exact ⟨fun z => absurd z g.1, fun _ => g.2.2⟩
  have hgp : ∀ p, p < 192 → fo p < 12 → mpg (fo p) = nI p ∧ pgN (fo p) = p ∧ mbs (fo p) = nI (bN (fo p)) ∧ bN (fo p) ≤ u := fun p hp hf => by
    obtain ⟨es, et, ep, t1, m1, t2, b1, b2, hs⟩ := R_st hR hf (hfpn p hp hf) (by omega)
    have e := (nI_eq (by omega) (by omega)).mp (t1.symm.trans (hfp p hp hf))
    exact ⟨by rw [m1, e], e, b1, b2⟩
  have hcl := RS_sw (fo := fo) hRS hc hw hfpn
  have hle := sw_cnt (pgN := pgN) (fo := fo) (X := ((di, bt, dk, lf, wn, en, fl) : DS))
  obtain ⟨Y, hY⟩ : ∃ Y : Nat → DS × Nat, ∀ k, Y k = swG actS (dwrt pgN) fo (di, bt, dk, lf, wn, en, fl) k := ⟨_, fun _ => rfl⟩
  obtain ⟨Z, hZ⟩ : ∃ Z : Nat → MS × Nat, ∀ k, Z k = swG asM (mwrt mcp mcl mpl mpg bN pgN u) fo (mfl, men, mst, mlf, mwn, mfm, mto, mfs, mls, mdi) k := ⟨_, fun _ => rfl⟩
  have hst2 : ∀ k, k ≤ 192 → (Z k).2 = (Y k).2 ∧ RS pg pn us rd (nI q) mnw mcp mcb mcv mcl mbl mpl mpg mpn mus mbs (nI q) mrd pgN bN cpN cbN u q (c + 1) (Y k).1 (Z k).1 (w + (Y k).2) ∧ (Y k).2 + cntD (Y k).1.1 12 ≤ 12 := fun k hk => by
    rw [hY, hZ]; exact ⟨(hcl k hk).1, (hcl k hk).2, hle k⟩
  by_cases hbad : ∃ p, p < 192 ∧ fo p < 12 ∧ actS (Y p).1 (fo p) = true ∧ ¬ lfOK (Y p).1.2.2.2.1
  · obtain ⟨pc, ⟨hpc, hfc, hac, hbl⟩, hmin⟩ := pk_least _ hbad
    obtain ⟨e2, hRk, hle2⟩ := hst2 pc (by omega)
    have hpos := cntD_pos (di := (Y pc).1.1) (f := fo pc) (z := 12) (of_decide_eq_true hac) hfc
    have hact := RS_actS hRk hfc (hfpn pc hpc hfc)
    have hlf := RS_lf hRk
    rcases lf_or (Y pc).1.2.2.2.1 with g | ⟨mm, hm8, hnz, h0⟩
    · exact absurd g hbl
    have hok : ∀ p, p < pc → fo p < 12 → actS (Y p).1 (fo p) = true → lfOK (Y p).1.2.2.2.1 := fun k hk a b => Classical.not_not.mp (fun g => hmin k hk ⟨by omega, a, b, g⟩)
    have hokM : ∀ p, p < pc → fo p < 12 → asM (Z p).1 (fo p) = true → mlOK (Z p).1.2.2.2.1 := fun k hk a b z hz g => by
      obtain ⟨e3, hRj, -⟩ := hst2 k (by omega)
      have := hok k hk a ((RS_actS hRj a (hfpn k (by omega) a)).mpr b) z hz
      exact this ((RS_lf hRj z).symm.trans g)
    obtain ⟨f1, f2, f3, f4, hRr⟩ := hRk
    have hRc := R_cut (i := fo pc) (mm := mm) hRr hfc (hfpn pc hpc hfc) (by omega) hm8
    rw [(hgp pc hpc hfc).2.1] at hRc
    refine ⟨_, _, 1, 0, RW_mk (R_mono (c' := c + 1) (w' := w + 12) hRc (Nat.le_refl _) hc (by omega)), ⟨_, _, by decide, by decide, fun sz => c_M_sweep_cut l dC dI ka sz h2 ad mth mnw mcp mcb mcv mcl mbl mpl mfm mto mfs mls mpg mpn mus mdi mst mbs (nI q) men mfl mrd mwn mlf u pc mm bN pgN fo cpN cbN Z hfoM hgp eu (by omega) hZ hokM hch hpc hfc (hact.mp hac) hm8 (fun z hz g => hnz z hz ((hlf z).symm.trans g)) ((hlf mm).trans h0)⟩, Or.inr (⟨rfl, ⟨_, _, by decide, by decide, fun sa sz => c_B_sweep_cut l hst dC dI ka sa sz h dr db lg fa fr fb pg pn us di bt dk lf wn rd en fl (nI q) pc mm pgN fo Y hfoR hF hY hok hpc hfc hac hm8 hnz h0⟩⟩)⟩
  · have hok : ∀ p, p < 192 → fo p < 12 → actS (Y p).1 (fo p) = true → lfOK (Y p).1.2.2.2.1 := fun k hk a b => Classical.not_not.mp (fun g => hbad ⟨k, hk, a, b, g⟩)
    have hokM : ∀ p, p < 192 → fo p < 12 → asM (Z p).1 (fo p) = true → mlOK (Z p).1.2.2.2.1 := fun k hk a b z hz g => by
      obtain ⟨e3, hRj, -⟩ := hst2 k (by omega)
      have := hok k hk a ((RS_actS hRj a (hfpn k hk a)).mpr b) z hz
      exact this ((RS_lf hRj z).symm.trans g)
    obtain ⟨e2, hRk, hle2⟩ := hst2 192 (Nat.le_refl _)
    obtain ⟨f1, f2, f3, f4, hRr⟩ := hRk
    have hMc := fun sz => c_M_sweep_ok l dC dI ka sz h2 ad mth mnw mcp mcb mcv mcl mbl mpl mfm mto mfs mls mpg mpn mus mdi mst mbs (nI q) men mfl mrd mwn mlf u bN pgN fo Z hfoM hgp eu (by omega) hZ hokM
    rw [e2] at hMc
    refine ⟨_, _, 0, nI (Y 192).2, RW_mk (R_mono (c' := c + 1) (w' := w + 12) hRr (Nat.le_refl _) hc (by omega)), ⟨_, _, by decide, by decide, hMc⟩, Or.inl (⟨rfl, ⟨_, _, by decide, by decide, fun sz => c_B_sweep_ok l dC dI ka sz h dr db lg fa fr fb pg pn us di bt dk lf wn rd en fl (nI q) pgN fo Y hfoR hF hY hok⟩⟩)⟩
