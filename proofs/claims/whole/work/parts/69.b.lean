set_option maxHeartbeats 4000000 in
theorem S_clean (l : Launch) (dC : Nat → ClassId) (dI : Nat → Nat → Nat) (ka : Nat → ClassId) (h dr db lg fa : Nat) (fr fb : Nat → Nat) (h2 : Nat) (ad : Nat → Nat) (mth : Int32) (c w : Nat) (W M : va_W) (hst : l.stackTraces = false) (hRW : RW h dr db lg fa fr fb ka h2 ad mth c w W M) (hc : c + 1 < 519) (hw : w + 12 < 65535) (x : Int32) : ∃ (W' M' : va_W) (k b : Int32), RW h dr db lg fa fr fb ka h2 ad k (c + 1) (w + 12) W' M' ∧ oI l dC dI ka yM_clean wM_clean [.ref h2, .int x] M M' b ∧ ((k = 0 ∧ oI l dC dI ka yB_clean wB_clean [.ref h, .int x] W W' b) ∨ (k = 1 ∧ oX l dC dI ka yB_clean wB_clean [.ref h, .int x] W W' xIAE) ∨ (k = 2 ∧ oX l dC dI ka yB_clean wB_clean [.ref h, .int x] W W' xUOE)) := by
  obtain ⟨pg, pn, us, di, bt, dk, lf, wn, rd, en, fl, hd, mnw, mcp, mcb, mcv, mcl, mbl, mpl, mfm, mto, mfs, mls, mpg, mpn, mus, mdi, mst, mbs, mhd, men, mfl, mrd, mwn, mlf, pgN, bN, cpN, cbN, fmN, toN, sN, lN, u, q, rfl, rfl, hR⟩ := hRW
  have x7 : mhd = nI q := hR.2.2.2.2.2.2.2.2.2.2.2.2.2.2.2.2.1
  have x8 : hd = nI q := hR.2.2.2.2.2.2.2.2.2.2.2.2.2.2.2.2.2.1
  have hq : q < 12 := hR.2.2.2.2.2.2.2.2.2.2.2.2.2.2.2.2.2.2.1
  have eu : mnw = nI u := hR.2.2.2.2.2.2.2.2.2.2.2.2.2.2.2.2.2.2.2.1
  have hu : u ≤ c := hR.2.2.2.2.2.2.2.2.2.2.2.2.2.2.2.2.2.2.2.2.1
  subst x7
  subst x8
  have hR1 := R_mono (c' := c + 1) (w' := w + 12) hR (by omega) hc (by omega)
  have hR0 := R_mono (c' := c + 1) (w' := w) hR (by omega) hc (Nat.le_refl w)
  by_cases hx : x < 1 ∨ ¬ x ≤ 12
  · exact ⟨_, _, 1, 0, RW_mk hR1, ⟨_, _, by decide, by decide, fun sz => c_M_clean_e l dC dI ka sz h2 ad mth mnw mcp mcb mcv mcl mbl mpl mfm mto mfs mls mpg mpn mus mdi mst mbs (nI q) men mfl mrd mwn mlf x hx⟩, Or.inr (Or.inl (⟨rfl, ⟨_, _, by decide, by decide, fun sa sz => c_B_clean_e l hst dC dI ka sa sz h dr db lg fa fr fb pg pn us di bt dk lf wn rd en fl (nI q) x hx⟩⟩))⟩
  have hx1 : ¬ x < 1 := fun g => hx (Or.inl g)
  have hx2 : x ≤ 12 := Decidable.not_not.mp (fun g => hx (Or.inr g))
  obtain ⟨nn, h12, rfl⟩ := nI_of2 (M := 12) (n := 12) rfl (fun g => hx1 (Int32.lt_trans g (by decide))) hx2
  have h1 : 1 ≤ nn := by
    rcases Nat.lt_or_ge nn 1 with g | g
    · exact absurd (nI_lt (b := 1) g (by decide)) hx1
    · exact g
  have hRS : RS pg pn us rd (nI q) mnw mcp mcb mcv mcl mbl mpl mpg mpn mus mbs (nI q) mrd pgN bN cpN cbN u q (c + 1) (di, bt, dk, lf, wn, en, fl) (mfl, men, mst, mlf, mwn, mfm, mto, mfs, mls, mdi) w := ⟨fmN, toN, sN, lN, hR0⟩
  have hF : ∀ f, f < 12 → sb_Fit (bt f) := (hR.2.2.2.2.2.2.2.2.2.1).1
  have hch : ∀ e, 1 ≤ e → e ≤ u → mcp e = nI (cpN e) ∧ cpN e < 192 ∧ mcb e = nI (cbN e) ∧ cbN e < 512 := fun e h1 h2 => hR.2.2.1 e h1 h2
  have hpN : ∀ f, f < 12 → ¬ di f = 0 → pg f = nI (pgN f) ∧ pgN f < 192 := fun f hf hd => ⟨(rT_pg hR.1 hf (rT_di hR.1 hf hd)).1, (rT_pg hR.1 hf (rT_di hR.1 hf hd)).2.1⟩
  have hpM : ∀ f, f < 12 → ¬ mpg f < 0 → mpg f = nI (pgN f) ∧ pgN f < 192 ∧ mbs f = nI (bN f) ∧ bN f ≤ u := fun f hf hg => by
    have hp : pg f ≠ -1 := fun g => hg ((R_neg hR hf).2.mpr g)
    obtain ⟨es, et, ep, t1, m1, t2, b1, b2, hs⟩ := R_st hR hf hp (by omega)
    exact ⟨m1, t2, b1, b2⟩
  have hcl := RS_cl (nn := nn) (q0 := q) hRS hc hw
  have hle := clG_le (act := actC pn) (wr := dwrt pgN) (n := nn) (q := q) (X := ((di, bt, dk, lf, wn, en, fl) : DS))
  obtain ⟨Y, hY⟩ : ∃ Y : Nat → DS × Nat, ∀ k, Y k = clG (actC pn) (dwrt pgN) nn q (di, bt, dk, lf, wn, en, fl) k := ⟨_, fun _ => rfl⟩
  obtain ⟨Z, hZ⟩ : ∃ Z : Nat → MS × Nat, ∀ k, Z k = clG (acM mpg mpn) (mwrt mcp mcl mpl mpg bN pgN u) nn q (mfl, men, mst, mlf, mwn, mfm, mto, mfs, mls, mdi) k := ⟨_, fun _ => rfl⟩
  have hst2 : ∀ k, k ≤ 12 → (Z k).2 = (Y k).2 ∧ RS pg pn us rd (nI q) mnw mcp mcb mcv mcl mbl mpl mpg mpn mus mbs (nI q) mrd pgN bN cpN cbN u q (c + 1) (Y k).1 (Z k).1 (w + (Y k).2) ∧ (Y k).2 ≤ k := fun k hk => by
    rw [hY, hZ]; exact ⟨(hcl k hk).1, (hcl k hk).2, hle k⟩
  by_cases hbad : ∃ k, k < 12 ∧ (Y k).2 < nn ∧ actC pn (Y k).1 (cf q k) = true ∧ ¬ lfOK (Y k).1.2.2.2.1
  · obtain ⟨kc, ⟨hkc, hlc, hac, hbl⟩, hmin⟩ := pk_least _ hbad
    obtain ⟨e2, hRk, hle2⟩ := hst2 kc (by omega)
    have hact := RS_act hRk (cf_lt (q := q) (k := kc)) hc
    have hlf := RS_lf hRk
    rcases lf_or (Y kc).1.2.2.2.1 with g | ⟨mm, hm8, hnz, h0⟩
    · exact absurd g hbl
    have hok : ∀ k, k < kc → (Y k).2 < nn → actC pn (Y k).1 (cf q k) = true → lfOK (Y k).1.2.2.2.1 := fun k hk a b => Classical.not_not.mp (fun g => hmin k hk ⟨by omega, a, b, g⟩)
    have hokM : ∀ k, k < kc → (Z k).2 < nn → acM mpg mpn (Z k).1 (cf q k) = true → mlOK (Z k).1.2.2.2.1 := fun k hk a b z hz g => by
      obtain ⟨e3, hRj, -⟩ := hst2 k (by omega)
      have := hok k hk (e3 ▸ a) ((RS_act hRj (cf_lt (q := q) (k := k)) hc).1.mpr b) z hz
      exact this ((RS_lf hRj z).symm.trans g)
    obtain ⟨f1, f2, f3, f4, hRr⟩ := hRk
    have hRc := R_cut (i := cf q kc) (mm := mm) hRr cf_lt (hact.2 hac) (by omega) hm8
    refine ⟨_, _, 2, 0, RW_mk (R_mono (c' := c + 1) (w' := w + 12) hRc (Nat.le_refl _) hc (by omega)), ⟨_, _, by decide, by decide, fun sz => c_M_clean_cut l dC dI ka sz h2 ad mth mnw mcp mcb mcv mcl mbl mpl mfm mto mfs mls mpg mpn mus mdi mst mbs men mfl mrd mwn mlf q (nI nn) nn u kc mm bN pgN cpN cbN Z rfl h1 h12 hq hpM eu (by omega) hZ hokM hch hkc (e2 ▸ hlc) (hact.1.mp hac) hm8 (fun z hz g => hnz z hz ((hlf z).symm.trans g)) ((hlf mm).trans h0)⟩, Or.inr (Or.inr (⟨rfl, ⟨_, _, by decide, by decide, fun sa sz => c_B_clean_cut l hst dC dI ka sa sz h dr db lg fa fr fb pg pn us di bt dk lf wn rd en fl q (nI nn) nn kc mm pgN Y rfl h1 h12 hq hpN hF hY hok hkc hlc hac hm8 hnz h0⟩⟩))⟩
  · have hok : ∀ k, k < 12 → (Y k).2 < nn → actC pn (Y k).1 (cf q k) = true → lfOK (Y k).1.2.2.2.1 := fun k hk a b => Classical.not_not.mp (fun g => hbad ⟨k, hk, a, b, g⟩)
    have hokM : ∀ k, k < 12 → (Z k).2 < nn → acM mpg mpn (Z k).1 (cf q k) = true → mlOK (Z k).1.2.2.2.1 := fun k hk a b z hz g => by
      obtain ⟨e3, hRj, -⟩ := hst2 k (by omega)
      have := hok k hk (e3 ▸ a) ((RS_act hRj (cf_lt (q := q) (k := k)) hc).1.mpr b) z hz
      exact this ((RS_lf hRj z).symm.trans g)
    obtain ⟨e2, hRk, hle2⟩ := hst2 12 (Nat.le_refl _)
    obtain ⟨f1, f2, f3, f4, hRr⟩ := hRk
    have hMc := fun sz => c_M_clean_ok l dC dI ka sz h2 ad mth mnw mcp mcb mcv mcl mbl mpl mfm mto mfs mls mpg mpn mus mdi mst mbs men mfl mrd mwn mlf q (nI nn) nn u bN pgN Z rfl h1 h12 hq hpM eu (by omega) hZ hokM
    rw [e2] at hMc
    refine ⟨_, _, 0, nI (Y 12).2, RW_mk (R_mono (c' := c + 1) (w' := w + 12) hRr (Nat.le_refl _) hc (by omega)), ⟨_, _, by decide, by decide, hMc⟩, Or.inl (⟨rfl, ⟨_, _, by decide, by decide, fun sz => c_B_clean_ok l dC dI ka sz h dr db lg fa fr fb pg pn us di bt dk lf wn rd en fl q (nI nn) nn pgN Y rfl h1 h12 hq hpN hF hY hok⟩⟩)⟩
