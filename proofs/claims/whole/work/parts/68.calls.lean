/-! THE OTHER CALLS ON BOTH SIDES -/

theorem R_npM {pg pn us di : Nat → Int32} {bt : Nat → Nat → Int32} {dk : Nat → Int32} {lf wn rd en fl hd : Int32} {mnw : Int32} {mcp mcb mcv mcl mbl mpl mfm mto mfs mls mpg mpn mus mdi mst mbs : Nat → Int32} {mhd men mfl mrd mwn mlf : Int32} {pgN bN cpN cbN fmN toN sN lN : Nat → Nat} {u q c w : Nat} (hR : Rel pg pn us di bt dk lf wn rd en fl hd mnw mcp mcb mcv mcl mbl mpl mfm mto mfs mls mpg mpn mus mdi mst mbs mhd men mfl mrd mwn mlf pgN bN cpN cbN fmN toN sN lN u q c w) {n : Nat} (hn : n < 12) (hp : pn n ≤ 0) : npM mpg mpn (nI n) := by
  refine Or.inr ⟨n, rfl, hn, ?_⟩
  rcases (hR.1 n hn).2.1 with g | g
  · exact Or.inl ((R_neg hR hn).2.mpr g.1)
  · exact Or.inr (g.2.2.1 ▸ hp)
theorem R_pd {pg pn us di : Nat → Int32} {bt : Nat → Nat → Int32} {dk : Nat → Int32} {lf wn rd en fl hd : Int32} {mnw : Int32} {mcp mcb mcv mcl mbl mpl mfm mto mfs mls mpg mpn mus mdi mst mbs : Nat → Int32} {mhd men mfl mrd mwn mlf : Int32} {pgN bN cpN cbN fmN toN sN lN : Nat → Nat} {u q c w : Nat} (hR : Rel pg pn us di bt dk lf wn rd en fl hd mnw mcp mcb mcv mcl mbl mpl mfm mto mfs mls mpg mpn mus mdi mst mbs mhd men mfl mrd mwn mlf pgN bN cpN cbN fmN toN sN lN u q c w) {n : Nat} (hn : n < 12) (hp : ¬ pn n ≤ 0) : pg n ≠ -1 ∧ ¬ mpg n < 0 ∧ ¬ mpn n ≤ 0 := by
  have h1 : pg n ≠ -1 := by
    rcases (hR.1 n hn).2.1 with g | g
    · exact absurd (by rw [g.2.1]; decide) hp
    · rw [g.1]; exact nI_m1 (by omega)
  exact ⟨h1, fun g => h1 ((R_neg hR hn).2.mp g), (rT_pg hR.1 hn h1).2.2.1 ▸ hp⟩

set_option maxHeartbeats 4000000 in
theorem S_unpin (l : Launch) (dC : Nat → ClassId) (dI : Nat → Nat → Nat) (ka : Nat → ClassId) (h dr db lg fa : Nat) (fr fb : Nat → Nat) (h2 : Nat) (ad : Nat → Nat) (mth : Int32) (c w : Nat) (W M : va_W) (hRW : RW h dr db lg fa fr fb ka h2 ad mth c w W M) (hc : c + 1 < 519) (hw : w + 1 < 65535) (x : Int32) : ∃ (W' M' : va_W) (r : Int32), RW h dr db lg fa fr fb ka h2 ad 0 (c + 1) (w + 1) W' M' ∧ oI l dC dI ka yM_unpin wM_unpin (.ref h2 :: [.int x]) M M' r ∧ oI l dC dI ka yB_unpin wB_unpin (.ref h :: [.int x]) W W' r := by
  obtain ⟨pg, pn, us, di, bt, dk, lf, wn, rd, en, fl, hd, mnw, mcp, mcb, mcv, mcl, mbl, mpl, mfm, mto, mfs, mls, mpg, mpn, mus, mdi, mst, mbs, mhd, men, mfl, mrd, mwn, mlf, pgN, bN, cpN, cbN, fmN, toN, sN, lN, u, q, rfl, rfl, hR⟩ := hRW
  have x7 : mhd = nI q := hR.2.2.2.2.2.2.2.2.2.2.2.2.2.2.2.2.1
  have x8 : hd = nI q := hR.2.2.2.2.2.2.2.2.2.2.2.2.2.2.2.2.2.1
  have hq : q < 12 := hR.2.2.2.2.2.2.2.2.2.2.2.2.2.2.2.2.2.2.1
  have eu : mnw = nI u := hR.2.2.2.2.2.2.2.2.2.2.2.2.2.2.2.2.2.2.2.1
  have hu : u ≤ c := hR.2.2.2.2.2.2.2.2.2.2.2.2.2.2.2.2.2.2.2.2.1
  subst x7
  subst x8
  have hR1 := R_mono (c' := c + 1) (w' := w + 1) hR (by omega) hc (by omega)
  rcases tk_ix (x := x) 12 (by decide) with hx0 | ⟨n, hn, rfl⟩
  · exact ⟨_, _, 0, RW_mk hR1, ⟨_, _, by decide, by decide, fun sz => c_M_unpin_0 l dC dI ka sz h2 ad mth mnw mcp mcb mcv mcl mbl mpl mfm mto mfs mls mpg mpn mus mdi mst mbs (nI q) men mfl mrd mwn mlf x (Or.inl hx0)⟩, ⟨_, _, by decide, by decide, fun sz => c_B_unpin_f0 l dC dI ka sz h dr db lg fa fr fb pg pn us di bt dk lf wn rd en fl (nI q) x hx0⟩⟩
  by_cases hp : pn n ≤ 0
  · exact ⟨_, _, 0, RW_mk hR1, ⟨_, _, by decide, by decide, fun sz => c_M_unpin_0 l dC dI ka sz h2 ad mth mnw mcp mcb mcv mcl mbl mpl mfm mto mfs mls mpg mpn mus mdi mst mbs (nI q) men mfl mrd mwn mlf (nI n) (R_npM hR hn hp)⟩, ⟨_, _, by decide, by decide, fun sz => c_B_unpin_n0 l dC dI ka sz h dr db lg fa fr fb pg pn us di bt dk lf wn rd en fl (nI q) (nI n) n rfl hn hp⟩⟩
  obtain ⟨h1, h2', h3⟩ := R_pd hR hn hp
  obtain ⟨-, -, epn, eus, -⟩ := rT_pg hR.1 hn h1
  obtain ⟨-, -, ⟨a, ha, ea⟩, ⟨v, hv, ev⟩⟩ := hR.1 n hn
  cases a with
  | zero => exact absurd (by rw [ea, nI_0]; decide) hp
  | succ a =>
    have hR2 := R_tab (j := n) (a := pn n - 1) (b := us n) (a2 := mpn n - 1) (b2 := mus n) (n := a) (v := v) hR1 h1 (by rw [ea, nI_pred]) (by omega) ev hv (by rw [epn]) eus
    rw [upd_id, upd_id] at hR2
    exact ⟨_, _, 1, RW_mk hR2, ⟨_, _, by decide, by decide, fun sz => c_M_unpin_in l dC dI ka sz h2 ad mth mnw mcp mcb mcv mcl mbl mpl mfm mto mfs mls mpg mpn mus mdi mst mbs (nI q) men mfl mrd mwn mlf (nI n) n rfl hn h2' h3⟩, ⟨_, _, by decide, by decide, fun sz => c_B_unpin_in l dC dI ka sz h dr db lg fa fr fb pg pn us di bt dk lf wn rd en fl (nI q) (nI n) n rfl hn hp⟩⟩

set_option maxHeartbeats 4000000 in
theorem S_set (l : Launch) (dC : Nat → ClassId) (dI : Nat → Nat → Nat) (ka : Nat → ClassId) (h dr db lg fa : Nat) (fr fb : Nat → Nat) (h2 : Nat) (ad : Nat → Nat) (mth : Int32) (c w : Nat) (W M : va_W) (hRW : RW h dr db lg fa fr fb ka h2 ad mth c w W M) (hc : c + 1 < 519) (hw : w + 1 < 65535) (x y v pl : Int32) : ∃ (W' M' : va_W) (r : Int32), RW h dr db lg fa fr fb ka h2 ad 0 (c + 1) (w + 1) W' M' ∧ oI l dC dI ka yM_set wM_set (.ref h2 :: [.int x, .int y, .int v, .int pl]) M M' r ∧ oI l dC dI ka yB_set wB_set (.ref h :: [.int x, .int y, .int v, .int pl]) W W' r := by
  obtain ⟨pg, pn, us, di, bt, dk, lf, wn, rd, en, fl, hd, mnw, mcp, mcb, mcv, mcl, mbl, mpl, mfm, mto, mfs, mls, mpg, mpn, mus, mdi, mst, mbs, mhd, men, mfl, mrd, mwn, mlf, pgN, bN, cpN, cbN, fmN, toN, sN, lN, u, q, rfl, rfl, hR⟩ := hRW
  have x7 : mhd = nI q := hR.2.2.2.2.2.2.2.2.2.2.2.2.2.2.2.2.1
  have x8 : hd = nI q := hR.2.2.2.2.2.2.2.2.2.2.2.2.2.2.2.2.2.1
  have hq : q < 12 := hR.2.2.2.2.2.2.2.2.2.2.2.2.2.2.2.2.2.2.1
  have eu : mnw = nI u := hR.2.2.2.2.2.2.2.2.2.2.2.2.2.2.2.2.2.2.2.1
  have hu : u ≤ c := hR.2.2.2.2.2.2.2.2.2.2.2.2.2.2.2.2.2.2.2.2.1
  subst x7
  subst x8
  have hR1 := R_mono (c' := c + 1) (w' := w + 1) hR (by omega) hc (by omega)
  rcases tk_ix (x := x) 12 (by decide) with hx0 | ⟨n, hn, rfl⟩
  · exact ⟨_, _, 0, RW_mk hR1, ⟨_, _, by decide, by decide, fun sz => c_M_set_n0 l dC dI ka sz h2 ad mth mnw mcp mcb mcv mcl mbl mpl mfm mto mfs mls mpg mpn mus mdi mst mbs (nI q) men mfl mrd mwn mlf x y v pl (Or.inl hx0)⟩, ⟨_, _, by decide, by decide, fun sz => c_B_set_f0 l dC dI ka sz h dr db lg fa fr fb pg pn us di bt dk lf wn rd en fl (nI q) x y v pl hx0⟩⟩
  by_cases hy : y < 6 ∨ ¬ y ≤ 509
  · by_cases hp : pn n ≤ 0
    · exact ⟨_, _, 0, RW_mk hR1, ⟨_, _, by decide, by decide, fun sz => c_M_set_n0 l dC dI ka sz h2 ad mth mnw mcp mcb mcv mcl mbl mpl mfm mto mfs mls mpg mpn mus mdi mst mbs (nI q) men mfl mrd mwn mlf (nI n) y v pl (R_npM hR hn hp)⟩, ⟨_, _, by decide, by decide, fun sz => c_B_set_i0 l dC dI ka sz h dr db lg fa fr fb pg pn us di bt dk lf wn rd en fl (nI q) (nI n) y v pl n rfl hn hy⟩⟩
    · obtain ⟨h1, h2', h3⟩ := R_pd hR hn hp
      exact ⟨_, _, 0, RW_mk hR1, ⟨_, _, by decide, by decide, fun sz => c_M_set_i0 l dC dI ka sz h2 ad mth mnw mcp mcb mcv mcl mbl mpl mfm mto mfs mls mpg mpn mus mdi mst mbs (nI q) men mfl mrd mwn mlf (nI n) y v pl n rfl hn h2' h3 (hy.imp id Int32.not_le.mp)⟩, ⟨_, _, by decide, by decide, fun sz => c_B_set_i0 l dC dI ka sz h dr db lg fa fr fb pg pn us di bt dk lf wn rd en fl (nI q) (nI n) y v pl n rfl hn hy⟩⟩
  have hy1 : ¬ y < 6 := fun g => hy (Or.inl g)
  have hy2 : y ≤ 509 := Decidable.not_not.mp (fun g => hy (Or.inr g))
  obtain ⟨k, hk2, rfl⟩ := nI_of2 (M := 509) (n := 509) rfl (fun g => hy1 (Int32.lt_trans g (by decide))) hy2
  have hk1 : 6 ≤ k := by
    rcases Nat.lt_or_ge k 6 with g | g
    · exact absurd (nI_lt (b := 6) g (by decide)) hy1
    · exact g
  by_cases hp : pn n ≤ 0
  · exact ⟨_, _, 0, RW_mk hR1, ⟨_, _, by decide, by decide, fun sz => c_M_set_n0 l dC dI ka sz h2 ad mth mnw mcp mcb mcv mcl mbl mpl mfm mto mfs mls mpg mpn mus mdi mst mbs (nI q) men mfl mrd mwn mlf (nI n) (nI k) v pl (R_npM hR hn hp)⟩, ⟨_, _, by decide, by decide, fun sz => c_B_set_n0 l dC dI ka sz h dr db lg fa fr fb pg pn us di bt dk lf wn rd en fl (nI q) (nI n) (nI k) v pl n k rfl hn rfl hk1 hk2 hp⟩⟩
  obtain ⟨h1, h2', h3⟩ := R_pd hR hn hp
  obtain ⟨es, et, ep, t1, m1, t2, b1, b2, hs⟩ := R_st hR hn h1 (by omega)
  by_cases hpl : plB (bt n) ≤ pl
  · exact ⟨_, _, 1, RW_mk (R_mono (c' := c + 1) (w' := w + 1) (R_set (n := n) (k := k) (v := v) (pl := pl) hR hn h1 hk1 hk2 hc) (Nat.le_refl _) hc (by omega)), ⟨_, _, by decide, by decide, fun sz => c_M_set_in l dC dI ka sz h2 ad mth mnw mcp mcb mcv mcl mbl mpl mfm mto mfs mls mpg mpn mus mdi mst mbs (nI q) men mfl mrd mwn mlf (nI n) (nI k) v pl n k (bN n) u (pgN n) rfl hn h2' h3 rfl hk1 hk2 b1 eu b2 (by omega) (ep ▸ hpl) m1 t2⟩, ⟨_, _, by decide, by decide, fun sz => c_B_set_in l dC dI ka sz h dr db lg fa fr fb pg pn us di bt dk lf wn rd en fl (nI q) (nI n) (nI k) v pl n k rfl hn rfl hk1 hk2 hp hpl⟩⟩
  · exact ⟨_, _, 0, RW_mk hR1, ⟨_, _, by decide, by decide, fun sz => c_M_set_p0 l dC dI ka sz h2 ad mth mnw mcp mcb mcv mcl mbl mpl mfm mto mfs mls mpg mpn mus mdi mst mbs (nI q) men mfl mrd mwn mlf (nI n) (nI k) v pl n k (bN n) u rfl hn h2' h3 rfl hk1 hk2 b1 eu b2 (by omega) (ep ▸ hpl)⟩, ⟨_, _, by decide, by decide, fun sz => c_B_set_p0 l dC dI ka sz h dr db lg fa fr fb pg pn us di bt dk lf wn rd en fl (nI q) (nI n) (nI k) v pl n k rfl hn rfl hk1 hk2 hp hpl⟩⟩

set_option maxHeartbeats 4000000 in
theorem S_charge (l : Launch) (dC : Nat → ClassId) (dI : Nat → Nat → Nat) (ka : Nat → ClassId) (h dr db lg fa : Nat) (fr fb : Nat → Nat) (h2 : Nat) (ad : Nat → Nat) (mth : Int32) (c w : Nat) (W M : va_W) (hRW : RW h dr db lg fa fr fb ka h2 ad mth c w W M) (hc : c + 1 < 519) (hw : w + 1 < 65535) (hst : l.stackTraces = false) (x : Int32) : ∃ (W' M' : va_W) (k : Int32), RW h dr db lg fa fr fb ka h2 ad k (c + 1) (w + 1) W' M' ∧ oV l dC dI ka yM_charge wM_charge [.ref h2, .int x] M M' ∧ ((k = 0 ∧ oV l dC dI ka yB_charge wB_charge [.ref h, .int x] W W') ∨ (k = 1 ∧ oXv l dC dI ka yB_charge wB_charge [.ref h, .int x] W W' xIAE)) := by
  obtain ⟨pg, pn, us, di, bt, dk, lf, wn, rd, en, fl, hd, mnw, mcp, mcb, mcv, mcl, mbl, mpl, mfm, mto, mfs, mls, mpg, mpn, mus, mdi, mst, mbs, mhd, men, mfl, mrd, mwn, mlf, pgN, bN, cpN, cbN, fmN, toN, sN, lN, u, q, rfl, rfl, hR⟩ := hRW
  have x7 : mhd = nI q := hR.2.2.2.2.2.2.2.2.2.2.2.2.2.2.2.2.1
  have x8 : hd = nI q := hR.2.2.2.2.2.2.2.2.2.2.2.2.2.2.2.2.2.1
  have hq : q < 12 := hR.2.2.2.2.2.2.2.2.2.2.2.2.2.2.2.2.2.2.1
  have eu : mnw = nI u := hR.2.2.2.2.2.2.2.2.2.2.2.2.2.2.2.2.2.2.2.1
  have hu : u ≤ c := hR.2.2.2.2.2.2.2.2.2.2.2.2.2.2.2.2.2.2.2.2.1
  subst x7
  subst x8
  have hR1 := R_mono (c' := c + 1) (w' := w + 1) hR (by omega) hc (by omega)
  by_cases hx : x < 0 ∨ ¬ x ≤ 999
  · exact ⟨_, _, 1, RW_mk hR1, ⟨_, _, by decide, by decide, fun sz => c_M_charge_e l dC dI ka sz h2 ad mth mnw mcp mcb mcv mcl mbl mpl mfm mto mfs mls mpg mpn mus mdi mst mbs (nI q) men mfl mrd mwn mlf x hx⟩, Or.inr ⟨rfl, ⟨_, _, by decide, by decide, fun sa sz => c_B_charge_e l hst dC dI ka sa sz h dr db lg fa fr fb pg pn us di bt dk lf wn rd en fl (nI q) x hx⟩⟩⟩
  have h1 : ¬ x < 0 := fun g => hx (Or.inl g)
  have h2' : x ≤ 999 := Decidable.not_not.mp (fun g => hx (Or.inr g))
  exact ⟨_, _, 0, RW_mk (R_charge hR1 h1 h2'), ⟨_, _, by decide, by decide, fun sz => c_M_charge_in l dC dI ka sz h2 ad mth mnw mcp mcb mcv mcl mbl mpl mfm mto mfs mls mpg mpn mus mdi mst mbs (nI q) men mfl mrd mwn mlf x h1 h2'⟩, Or.inl ⟨rfl, ⟨_, _, by decide, by decide, fun sz => c_B_charge_in l dC dI ka sz h dr db lg fa fr fb pg pn us di bt dk lf wn rd en fl (nI q) x h1 h2'⟩⟩⟩

set_option maxHeartbeats 4000000 in
theorem S_flushed (l : Launch) (dC : Nat → ClassId) (dI : Nat → Nat → Nat) (ka : Nat → ClassId) (h dr db lg fa : Nat) (fr fb : Nat → Nat) (h2 : Nat) (ad : Nat → Nat) (mth : Int32) (c w : Nat) (W M : va_W) (hRW : RW h dr db lg fa fr fb ka h2 ad mth c w W M) (hc : c + 1 < 519) (hw : w + 1 < 65535) (x : Int32) : ∃ (W' M' : va_W) (r : Int32), RW h dr db lg fa fr fb ka h2 ad 0 (c + 1) (w + 1) W' M' ∧ oI l dC dI ka yM_flushed wM_flushed (.ref h2 :: [.int x]) M M' r ∧ oI l dC dI ka yB_flushed wB_flushed (.ref h :: [.int x]) W W' r := by
  obtain ⟨pg, pn, us, di, bt, dk, lf, wn, rd, en, fl, hd, mnw, mcp, mcb, mcv, mcl, mbl, mpl, mfm, mto, mfs, mls, mpg, mpn, mus, mdi, mst, mbs, mhd, men, mfl, mrd, mwn, mlf, pgN, bN, cpN, cbN, fmN, toN, sN, lN, u, q, rfl, rfl, hR⟩ := hRW
  have x7 : mhd = nI q := hR.2.2.2.2.2.2.2.2.2.2.2.2.2.2.2.2.1
  have x8 : hd = nI q := hR.2.2.2.2.2.2.2.2.2.2.2.2.2.2.2.2.2.1
  have hq : q < 12 := hR.2.2.2.2.2.2.2.2.2.2.2.2.2.2.2.2.2.2.1
  have eu : mnw = nI u := hR.2.2.2.2.2.2.2.2.2.2.2.2.2.2.2.2.2.2.2.1
  have hu : u ≤ c := hR.2.2.2.2.2.2.2.2.2.2.2.2.2.2.2.2.2.2.2.2.1
  subst x7
  subst x8
  have hR1 := R_mono (c' := c + 1) (w' := w + 1) hR (by omega) hc (by omega)
  have ee : men = en := hR.2.2.2.2.2.2.2.2.2.2.2.2.2.2.1
  by_cases hx : x ≤ en
  · have hn : ¬ en < x := Int32.not_lt.mpr hx
    exact ⟨_, _, 0, RW_mk hR1, ⟨_, _, by decide, by decide, fun sz => c_M_flushed_0 l dC dI ka sz h2 ad mth mnw mcp mcb mcv mcl mbl mpl mfm mto mfs mls mpg mpn mus mdi mst mbs (nI q) men mfl mrd mwn mlf x (ee ▸ hx)⟩, ⟨1, 21, by decide, by decide, fun sz => by have hB := c_B_flushed l dC dI ka sz h dr db lg fa fr fb pg pn us di bt dk lf wn rd en fl (nI q) x; rw [if_neg hn, if_neg hn] at hB; exact hB⟩⟩
  · have hn : en < x := Int32.not_le.mp hx
    exact ⟨_, _, 1, RW_mk (R_flush (x := x) hR1), ⟨_, _, by decide, by decide, fun sz => c_M_flushed_in l dC dI ka sz h2 ad mth mnw mcp mcb mcv mcl mbl mpl mfm mto mfs mls mpg mpn mus mdi mst mbs (nI q) men mfl mrd mwn mlf x (ee ▸ hx)⟩, ⟨1, 21, by decide, by decide, fun sz => by have hB := c_B_flushed l dC dI ka sz h dr db lg fa fr fb pg pn us di bt dk lf wn rd en fl (nI q) x; rw [if_pos hn, if_pos hn] at hB; exact hB⟩⟩

theorem look_out {pg pn us di : Nat → Int32} {bt : Nat → Nat → Int32} {n : Nat} {y : Int32} (h : y < 0 ∨ ¬ y ≤ 4) : lookV pg pn us di bt n y = -1 := by
  unfold lookV
  have e : ∀ k : Int32, 0 ≤ k → k ≤ 4 → ¬ y = k := fun k h1 h2 g => by
    subst g
    rcases h with h | h
    · exact absurd h (Int32.not_lt.mpr h1)
    · exact h h2
  rw [if_neg (e 0 (by decide) (by decide)), if_neg (e 1 (by decide) (by decide)), if_neg (e 2 (by decide) (by decide)), if_neg (e 3 (by decide) (by decide)), if_neg (e 4 (by decide) (by decide))]

set_option maxHeartbeats 4000000 in
theorem S_look (l : Launch) (dC : Nat → ClassId) (dI : Nat → Nat → Nat) (ka : Nat → ClassId) (h dr db lg fa : Nat) (fr fb : Nat → Nat) (h2 : Nat) (ad : Nat → Nat) (mth : Int32) (c w : Nat) (W M : va_W) (hRW : RW h dr db lg fa fr fb ka h2 ad mth c w W M) (hc : c + 1 < 519) (hw : w + 1 < 65535) (x y : Int32) : ∃ (M' : va_W) (r : Int32), RW h dr db lg fa fr fb ka h2 ad 0 (c + 1) (w + 1) W M' ∧ oI l dC dI ka yM_look wM_look (.ref h2 :: [.int x, .int y]) M M' r ∧ oR l dC dI ka yB_look wB_look (.ref h :: [.int x, .int y]) W r := by
  obtain ⟨pg, pn, us, di, bt, dk, lf, wn, rd, en, fl, hd, mnw, mcp, mcb, mcv, mcl, mbl, mpl, mfm, mto, mfs, mls, mpg, mpn, mus, mdi, mst, mbs, mhd, men, mfl, mrd, mwn, mlf, pgN, bN, cpN, cbN, fmN, toN, sN, lN, u, q, rfl, rfl, hR⟩ := hRW
  have x7 : mhd = nI q := hR.2.2.2.2.2.2.2.2.2.2.2.2.2.2.2.2.1
  have x8 : hd = nI q := hR.2.2.2.2.2.2.2.2.2.2.2.2.2.2.2.2.2.1
  have hq : q < 12 := hR.2.2.2.2.2.2.2.2.2.2.2.2.2.2.2.2.2.2.1
  have eu : mnw = nI u := hR.2.2.2.2.2.2.2.2.2.2.2.2.2.2.2.2.2.2.2.1
  have hu : u ≤ c := hR.2.2.2.2.2.2.2.2.2.2.2.2.2.2.2.2.2.2.2.2.1
  subst x7
  subst x8
  have hR1 := R_mono (c' := c + 1) (w' := w + 1) hR (by omega) hc (by omega)
  rcases tk_ix (x := x) 12 (by decide) with hx0 | ⟨n, hn, rfl⟩
  · exact ⟨_, -1, RW_mk hR1, ⟨_, _, by decide, by decide, fun sz => c_M_look_f0 l dC dI ka sz h2 ad mth mnw mcp mcb mcv mcl mbl mpl mfm mto mfs mls mpg mpn mus mdi mst mbs (nI q) men mfl mrd mwn mlf x y hx0⟩, ⟨_, _, by decide, by decide, c_B_look_f0 l dC dI ka h dr db lg fa fr fb pg pn us di bt dk lf wn rd en fl (nI q) x y hx0⟩⟩
  by_cases hp : pg n = -1
  · exact ⟨_, -1, RW_mk hR1, ⟨_, _, by decide, by decide, fun sz => c_M_look_e0 l dC dI ka sz h2 ad mth mnw mcp mcb mcv mcl mbl mpl mfm mto mfs mls mpg mpn mus mdi mst mbs (nI q) men mfl mrd mwn mlf (nI n) y n rfl hn ((R_neg hR hn).2.mpr hp)⟩, ⟨_, _, by decide, by decide, c_B_look_e0 l dC dI ka h dr db lg fa fr fb pg pn us di bt dk lf wn rd en fl (nI q) (nI n) y n rfl hn hp⟩⟩
  have hp2 : ¬ mpg n < 0 := fun g => hp ((R_neg hR hn).2.mp g)
  by_cases hy : y < 0 ∨ ¬ y ≤ 4
  · exact ⟨_, -1, RW_mk hR1, ⟨_, _, by decide, by decide, fun sz => c_M_look_b0 l dC dI ka sz h2 ad mth mnw mcp mcb mcv mcl mbl mpl mfm mto mfs mls mpg mpn mus mdi mst mbs (nI q) men mfl mrd mwn mlf (nI n) y n rfl hn hp2 hy⟩, ⟨2, 41, by decide, by decide, by have hB := c_B_look_in l dC dI ka h dr db lg fa fr fb pg pn us di bt dk lf wn rd en fl (nI q) (nI n) y n rfl hn hp; rw [look_out hy] at hB; exact hB⟩⟩
  have hy1 : ¬ y < 0 := fun g => hy (Or.inl g)
  have hy2 : y ≤ 4 := Decidable.not_not.mp (fun g => hy (Or.inr g))
  obtain ⟨es, et, ep, t1, m1, t2, b1, b2, hs⟩ := R_st hR hn hp (by omega)
  obtain ⟨-, -, epn, eus, edi⟩ := rT_pg hR.1 hn hp
  have ev : lookV pg pn us di bt n y = (if y = 0 then (mpg n) else (if y = 1 then (mpn n) else (if y = 2 then (mus n) else (if y = 3 then (if (mdi n) = 0 then 0 else 1) else (plcF mcp mcl mpl (mpg n) (bN n) (u - bN n)))))) := by
    obtain ⟨k, hk, rfl⟩ := nI_of2 (M := 4) (n := 4) rfl hy1 hy2
    unfold lookV
    rw [(R_neg hR hn).1, epn, eus, edi, ep, (R_neg hR hn).1]
    rcases (show k = 0 ∨ k = 1 ∨ k = 2 ∨ k = 3 ∨ k = 4 by omega) with rfl | rfl | rfl | rfl | rfl <;> rfl
  exact ⟨_, _, RW_mk hR1, ⟨_, _, by decide, by decide, fun sz => c_M_look_in l dC dI ka sz h2 ad mth mnw mcp mcb mcv mcl mbl mpl mfm mto mfs mls mpg mpn mus mdi mst mbs (nI q) men mfl mrd mwn mlf (nI n) y n (bN n) u rfl hn hp2 hy1 hy2 b1 eu b2 (by omega)⟩, ⟨2, 41, by decide, by decide, by have hB := c_B_look_in l dC dI ka h dr db lg fa fr fb pg pn us di bt dk lf wn rd en fl (nI q) (nI n) y n rfl hn hp; rw [ev] at hB; exact hB⟩⟩

set_option maxHeartbeats 4000000 in
theorem S_count (l : Launch) (dC : Nat → ClassId) (dI : Nat → Nat → Nat) (ka : Nat → ClassId) (h dr db lg fa : Nat) (fr fb : Nat → Nat) (h2 : Nat) (ad : Nat → Nat) (mth : Int32) (c w : Nat) (W M : va_W) (hRW : RW h dr db lg fa fr fb ka h2 ad mth c w W M) (hc : c + 1 < 519) (hw : w + 1 < 65535) (y : Int32) : ∃ (M' : va_W) (r : Int32), RW h dr db lg fa fr fb ka h2 ad 0 (c + 1) (w + 1) W M' ∧ oI l dC dI ka yM_count wM_count (.ref h2 :: [.int y]) M M' r ∧ oR l dC dI ka yB_count wB_count (.ref h :: [.int y]) W r := by
  obtain ⟨pg, pn, us, di, bt, dk, lf, wn, rd, en, fl, hd, mnw, mcp, mcb, mcv, mcl, mbl, mpl, mfm, mto, mfs, mls, mpg, mpn, mus, mdi, mst, mbs, mhd, men, mfl, mrd, mwn, mlf, pgN, bN, cpN, cbN, fmN, toN, sN, lN, u, q, rfl, rfl, hR⟩ := hRW
  have x7 : mhd = nI q := hR.2.2.2.2.2.2.2.2.2.2.2.2.2.2.2.2.1
  have x8 : hd = nI q := hR.2.2.2.2.2.2.2.2.2.2.2.2.2.2.2.2.2.1
  have hq : q < 12 := hR.2.2.2.2.2.2.2.2.2.2.2.2.2.2.2.2.2.2.1
  have eu : mnw = nI u := hR.2.2.2.2.2.2.2.2.2.2.2.2.2.2.2.2.2.2.2.1
  have hu : u ≤ c := hR.2.2.2.2.2.2.2.2.2.2.2.2.2.2.2.2.2.2.2.2.1
  subst x7
  subst x8
  have hR1 := R_mono (c' := c + 1) (w' := w + 1) hR (by omega) hc (by omega)
  obtain ⟨x1, x2, x3, x4, x5, x6, -⟩ := hR.2.2.2.2.2.2.2.2.2.2
  have ev : countV pg wn rd en fl (nI q) y = (if y = 0 then (nI q) else (if y = 1 then mrd else (if y = 2 then mwn else (if y = 3 then men else (if y = 4 then mfl else (if y = 5 then (nI (cnM mpg 12)) else (-1))))))) := by
    unfold countV
    rw [cnM_cntP 12 (fun f hf => (R_neg hR hf).2), x3, x4, x5, x6]
  exact ⟨_, _, RW_mk hR1, ⟨_, _, by decide, by decide, fun sz => c_M_count l dC dI ka sz h2 ad mth mnw mcp mcb mcv mcl mbl mpl mfm mto mfs mls mpg mpn mus mdi mst mbs (nI q) men mfl mrd mwn mlf y⟩, ⟨2, 42, by decide, by decide, by have hB := c_B_count l dC dI ka h dr db lg fa fr fb pg pn us di bt dk lf wn rd en fl (nI q) y; rw [ev] at hB; exact hB⟩⟩

set_option maxHeartbeats 4000000 in
theorem S_get (l : Launch) (dC : Nat → ClassId) (dI : Nat → Nat → Nat) (ka : Nat → ClassId) (h dr db lg fa : Nat) (fr fb : Nat → Nat) (h2 : Nat) (ad : Nat → Nat) (mth : Int32) (c w : Nat) (W M : va_W) (hRW : RW h dr db lg fa fr fb ka h2 ad mth c w W M) (hc : c + 1 < 519) (hw : w + 1 < 65535) (x y : Int32) : ∃ (M' : va_W) (r : Int32), RW h dr db lg fa fr fb ka h2 ad 0 (c + 1) (w + 1) W M' ∧ oI l dC dI ka yM_get wM_get (.ref h2 :: [.int x, .int y]) M M' r ∧ oR l dC dI ka yB_get wB_get (.ref h :: [.int x, .int y]) W r := by
  obtain ⟨pg, pn, us, di, bt, dk, lf, wn, rd, en, fl, hd, mnw, mcp, mcb, mcv, mcl, mbl, mpl, mfm, mto, mfs, mls, mpg, mpn, mus, mdi, mst, mbs, mhd, men, mfl, mrd, mwn, mlf, pgN, bN, cpN, cbN, fmN, toN, sN, lN, u, q, rfl, rfl, hR⟩ := hRW
  have x7 : mhd = nI q := hR.2.2.2.2.2.2.2.2.2.2.2.2.2.2.2.2.1
  have x8 : hd = nI q := hR.2.2.2.2.2.2.2.2.2.2.2.2.2.2.2.2.2.1
  have hq : q < 12 := hR.2.2.2.2.2.2.2.2.2.2.2.2.2.2.2.2.2.2.1
  have eu : mnw = nI u := hR.2.2.2.2.2.2.2.2.2.2.2.2.2.2.2.2.2.2.2.1
  have hu : u ≤ c := hR.2.2.2.2.2.2.2.2.2.2.2.2.2.2.2.2.2.2.2.2.1
  subst x7
  subst x8
  have hR1 := R_mono (c' := c + 1) (w' := w + 1) hR (by omega) hc (by omega)
  rcases tk_ix (x := x) 12 (by decide) with hx0 | ⟨n, hn, rfl⟩
  · exact ⟨_, -1, RW_mk hR1, ⟨_, _, by decide, by decide, fun sz => c_M_get_f0 l dC dI ka sz h2 ad mth mnw mcp mcb mcv mcl mbl mpl mfm mto mfs mls mpg mpn mus mdi mst mbs (nI q) men mfl mrd mwn mlf x y hx0⟩, ⟨_, _, by decide, by decide, c_B_get_f0 l dC dI ka h dr db lg fa fr fb pg pn us di bt dk lf wn rd en fl (nI q) x y hx0⟩⟩
  by_cases hp : pg n = -1
  · rcases tk_ix (x := y) 512 (by decide) with hy0 | ⟨k, hk, rfl⟩
    · exact ⟨_, -1, RW_mk hR1, ⟨_, _, by decide, by decide, fun sz => c_M_get_e0 l dC dI ka sz h2 ad mth mnw mcp mcb mcv mcl mbl mpl mfm mto mfs mls mpg mpn mus mdi mst mbs (nI q) men mfl mrd mwn mlf (nI n) y n rfl hn ((R_neg hR hn).2.mpr hp)⟩, ⟨_, _, by decide, by decide, c_B_get_b0 l dC dI ka h dr db lg fa fr fb pg pn us di bt dk lf wn rd en fl (nI q) (nI n) y n rfl hn hy0⟩⟩
    · exact ⟨_, -1, RW_mk hR1, ⟨_, _, by decide, by decide, fun sz => c_M_get_e0 l dC dI ka sz h2 ad mth mnw mcp mcb mcv mcl mbl mpl mfm mto mfs mls mpg mpn mus mdi mst mbs (nI q) men mfl mrd mwn mlf (nI n) (nI k) n rfl hn ((R_neg hR hn).2.mpr hp)⟩, ⟨_, _, by decide, by decide, c_B_get_e0 l dC dI ka h dr db lg fa fr fb pg pn us di bt dk lf wn rd en fl (nI q) (nI n) (nI k) n k rfl hn rfl hk hp⟩⟩
  have hp2 : ¬ mpg n < 0 := fun g => hp ((R_neg hR hn).2.mp g)
  rcases tk_ix (x := y) 512 (by decide) with hy0 | ⟨k, hk, rfl⟩
  · exact ⟨_, -1, RW_mk hR1, ⟨_, _, by decide, by decide, fun sz => c_M_get_b0 l dC dI ka sz h2 ad mth mnw mcp mcb mcv mcl mbl mpl mfm mto mfs mls mpg mpn mus mdi mst mbs (nI q) men mfl mrd mwn mlf (nI n) y n rfl hn hp2 hy0⟩, ⟨_, _, by decide, by decide, c_B_get_b0 l dC dI ka h dr db lg fa fr fb pg pn us di bt dk lf wn rd en fl (nI q) (nI n) y n rfl hn hy0⟩⟩
  obtain ⟨es, et, ep, t1, m1, t2, b1, b2, hs⟩ := R_st hR hn hp (by omega)
  have ev : bt n k &&& 255 = gv (mst n) (mst n) (plcF mcp mcl mpl (mpg n) (bN n) (u - bN n)) (fun y => valF mcp mcb mcv mbl (mpg n) y (bN n) (u - bN n)) (nI k) := by
    rw [gv_gw hk, (R_neg hR hn).1]
    exact (hR.2.2.2.2.2.2.2.1 n hn hp).2.2.2 k hk
  exact ⟨_, _, RW_mk hR1, ⟨_, _, by decide, by decide, fun sz => c_M_get_in l dC dI ka sz h2 ad mth mnw mcp mcb mcv mcl mbl mpl mfm mto mfs mls mpg mpn mus mdi mst mbs (nI q) men mfl mrd mwn mlf (nI n) (nI k) n k (bN n) u rfl hn hp2 rfl hk b1 eu b2 (by omega)⟩, ⟨1, 20, by decide, by decide, by have hB := c_B_get_in l dC dI ka h dr db lg fa fr fb pg pn us di bt dk lf wn rd en fl (nI q) (nI n) (nI k) n k rfl hn rfl hk hp; rw [ev] at hB; exact hB⟩⟩

set_option maxHeartbeats 4000000 in
theorem S_disk (l : Launch) (dC : Nat → ClassId) (dI : Nat → Nat → Nat) (ka : Nat → ClassId) (h dr db lg fa : Nat) (fr fb : Nat → Nat) (h2 : Nat) (ad : Nat → Nat) (mth : Int32) (c w : Nat) (W M : va_W) (hRW : RW h dr db lg fa fr fb ka h2 ad mth c w W M) (hc : c + 1 < 519) (hw : w + 1 < 65535) (x y : Int32) : ∃ (M' : va_W) (r : Int32), RW h dr db lg fa fr fb ka h2 ad 0 (c + 1) (w + 1) W M' ∧ oI l dC dI ka yM_disk wM_disk (.ref h2 :: [.int x, .int y]) M M' r ∧ oR l dC dI ka yB_disk wB_disk (.ref h :: [.int x, .int y]) W r := by
  obtain ⟨pg, pn, us, di, bt, dk, lf, wn, rd, en, fl, hd, mnw, mcp, mcb, mcv, mcl, mbl, mpl, mfm, mto, mfs, mls, mpg, mpn, mus, mdi, mst, mbs, mhd, men, mfl, mrd, mwn, mlf, pgN, bN, cpN, cbN, fmN, toN, sN, lN, u, q, rfl, rfl, hR⟩ := hRW
  have x7 : mhd = nI q := hR.2.2.2.2.2.2.2.2.2.2.2.2.2.2.2.2.1
  have x8 : hd = nI q := hR.2.2.2.2.2.2.2.2.2.2.2.2.2.2.2.2.2.1
  have hq : q < 12 := hR.2.2.2.2.2.2.2.2.2.2.2.2.2.2.2.2.2.2.1
  have eu : mnw = nI u := hR.2.2.2.2.2.2.2.2.2.2.2.2.2.2.2.2.2.2.2.1
  have hu : u ≤ c := hR.2.2.2.2.2.2.2.2.2.2.2.2.2.2.2.2.2.2.2.2.1
  subst x7
  subst x8
  have hR1 := R_mono (c' := c + 1) (w' := w + 1) hR (by omega) hc (by omega)
  rcases tk_ix (x := x) 192 (by decide) with hx0 | ⟨n, hn, rfl⟩
  · exact ⟨_, -1, RW_mk hR1, ⟨_, _, by decide, by decide, fun sz => c_M_disk_p0 l dC dI ka sz h2 ad mth mnw mcp mcb mcv mcl mbl mpl mfm mto mfs mls mpg mpn mus mdi mst mbs (nI q) men mfl mrd mwn mlf x y hx0⟩, ⟨_, _, by decide, by decide, c_B_disk_p0 l dC dI ka h dr db lg fa fr fb pg pn us di bt dk lf wn rd en fl (nI q) x y hx0⟩⟩
  rcases tk_ix (x := y) 512 (by decide) with hy0 | ⟨k, hk, rfl⟩
  · exact ⟨_, -1, RW_mk hR1, ⟨_, _, by decide, by decide, fun sz => c_M_disk_b0 l dC dI ka sz h2 ad mth mnw mcp mcb mcv mcl mbl mpl mfm mto mfs mls mpg mpn mus mdi mst mbs (nI q) men mfl mrd mwn mlf (nI n) y n rfl hn hy0⟩, ⟨_, _, by decide, by decide, c_B_disk_b0 l dC dI ka h dr db lg fa fr fb pg pn us di bt dk lf wn rd en fl (nI q) (nI n) y n rfl hn hy0⟩⟩
  obtain ⟨s1, s2, s3, s4⟩ := hR.2.2.2.1 (8 * n + k / 64) (by omega)
  have ev : dk (n * 512 + k) &&& 255 = gv (mfs n) (mls n) (plcF mcp mcl mpl (nI n) (fmN (8 * n + k / 64)) (toN (8 * n + k / 64) - fmN (8 * n + k / 64))) (fun y => valF mcp mcb mcv mbl (nI n) y (fmN (8 * n + k / 64)) (toN (8 * n + k / 64) - fmN (8 * n + k / 64))) (nI k) := by
    rw [gv_gw hk]
    exact hR.2.2.2.2.2.2.2.2.1 n hn k hk
  exact ⟨_, _, RW_mk hR1, ⟨_, _, by decide, by decide, fun sz => c_M_disk_in l dC dI ka sz h2 ad mth mnw mcp mcb mcv mcl mbl mpl mfm mto mfs mls mpg mpn mus mdi mst mbs (nI q) men mfl mrd mwn mlf (nI n) (nI k) n k (fmN (8 * n + k / 64)) (toN (8 * n + k / 64)) rfl hn rfl hk s1 s2 s3 (by omega)⟩, ⟨1, 22, by decide, by decide, by have hB := c_B_disk_in l dC dI ka h dr db lg fa fr fb pg pn us di bt dk lf wn rd en fl (nI q) (nI n) (nI k) n k rfl hn rfl hk; rw [ev] at hB; exact hB⟩⟩

set_option maxHeartbeats 4000000 in
theorem S_torn (l : Launch) (dC : Nat → ClassId) (dI : Nat → Nat → Nat) (ka : Nat → ClassId) (h dr db lg fa : Nat) (fr fb : Nat → Nat) (h2 : Nat) (ad : Nat → Nat) (mth : Int32) (c w : Nat) (W M : va_W) (hRW : RW h dr db lg fa fr fb ka h2 ad mth c w W M) (hc : c + 1 < 519) (hw : w + 1 < 65535) (x : Int32) : ∃ (M' : va_W) (r : Int32), RW h dr db lg fa fr fb ka h2 ad 0 (c + 1) (w + 1) W M' ∧ oI l dC dI ka yM_torn wM_torn (.ref h2 :: [.int x]) M M' r ∧ oR l dC dI ka yB_torn wB_torn (.ref h :: [.int x]) W r := by
  obtain ⟨pg, pn, us, di, bt, dk, lf, wn, rd, en, fl, hd, mnw, mcp, mcb, mcv, mcl, mbl, mpl, mfm, mto, mfs, mls, mpg, mpn, mus, mdi, mst, mbs, mhd, men, mfl, mrd, mwn, mlf, pgN, bN, cpN, cbN, fmN, toN, sN, lN, u, q, rfl, rfl, hR⟩ := hRW
  have x7 : mhd = nI q := hR.2.2.2.2.2.2.2.2.2.2.2.2.2.2.2.2.1
  have x8 : hd = nI q := hR.2.2.2.2.2.2.2.2.2.2.2.2.2.2.2.2.2.1
  have hq : q < 12 := hR.2.2.2.2.2.2.2.2.2.2.2.2.2.2.2.2.2.2.1
  have eu : mnw = nI u := hR.2.2.2.2.2.2.2.2.2.2.2.2.2.2.2.2.2.2.2.1
  have hu : u ≤ c := hR.2.2.2.2.2.2.2.2.2.2.2.2.2.2.2.2.2.2.2.2.1
  subst x7
  subst x8
  have hR1 := R_mono (c' := c + 1) (w' := w + 1) hR (by omega) hc (by omega)
  rcases tk_ix (x := x) 192 (by decide) with hx0 | ⟨n, hn, rfl⟩
  · exact ⟨_, 0, RW_mk hR1, ⟨_, _, by decide, by decide, fun sz => c_M_torn_p0 l dC dI ka sz h2 ad mth mnw mcp mcb mcv mcl mbl mpl mfm mto mfs mls mpg mpn mus mdi mst mbs (nI q) men mfl mrd mwn mlf x hx0⟩, ⟨_, _, by decide, by decide, c_B_torn_p0 l dC dI ka h dr db lg fa fr fb pg pn us di bt dk lf wn rd en fl (nI q) x hx0⟩⟩
  obtain ⟨ed1, ed2, -⟩ := R_dk hR hn (by omega)
  exact ⟨_, _, RW_mk hR1, ⟨_, _, by decide, by decide, fun sz => c_M_torn_in l dC dI ka sz h2 ad mth mnw mcp mcb mcv mcl mbl mpl mfm mto mfs mls mpg mpn mus mdi mst mbs (nI q) men mfl mrd mwn mlf (nI n) n rfl hn⟩, ⟨3, 63, by decide, by decide, by have hB := c_B_torn_in l dC dI ka h dr db lg fa fr fb pg pn us di bt dk lf wn rd en fl (nI q) (nI n) n rfl hn; rw [ed1, ed2] at hB; exact hB⟩⟩
