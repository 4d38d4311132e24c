theorem RW_mono {h dr db lg fa : Nat} {fr fb : Nat → Nat} {ka : Nat → ClassId} {h2 : Nat} {ad : Nat → Nat} {mth : Int32} {k w : Nat} {Wd Md : va_W} (hR : RW h dr db lg fa fr fb ka h2 ad mth k w Wd Md) (hk : k + 1 < 519) : RW h dr db lg fa fr fb ka h2 ad mth (k + 1) w Wd Md := by
  obtain ⟨pg, pn, us, di, bt, dk, lf, wn, rd, en, fl, hd, mnw, mcp, mcb, mcv, mcl, mbl, mpl, mfm, mto, mfs, mls, mpg, mpn, mus, mdi, mst, mbs, mhd, men, mfl, mrd, mwn, mlf, pgN, bN, cpN, cbN, fmN, toN, sN, lN, u, q, rfl, rfl, hR⟩ := hR
  exact RW_mk (R_mono hR (Nat.le_succ k) hk (Nat.le_refl w))
set_option maxHeartbeats 4000000 in
set_option maxRecDepth 100000 in
/-- THE LAW'S LOOP: k calls behind its start -/
theorem law_loop {p : Program} {l : Launch} {e : Env} {s : State} {m : MethodId} {below : List Frame} {meth : Method} {c : Code} {dC : Nat → ClassId} {dI : Nat → Nat → Nat} {ka : Nat → ClassId} {sa : Nat → Nat} {b L : Nat} {xs : Nat → Int32} (hL : L ≤ 2560) (C0 : lw_At p s m meth c b L xs) (hst : l.stackTraces = false) (hE : tk_E dC dI ka s) (hXx : tk_X sa s) (hZz : tk_Z (fun q : Nat => s.heap.size ≤ q) s s.heap) (hNn : tk_N s) {h dr db lg fa : Nat} {fr fb : Nat → Nat} {h2 : Nat} {ad : Nat → Nat} {o : Nat} : ∀ (n k w : Nat) (mth : Int32) (g : Nat → Int64) (Wd Md : va_W) (H : Heap) (locs : List Loc) (ls : Array Slot), 5 * k ≤ L → L + 1 ≤ 5 * (k + n) → w ≤ 12 * k → RW h dr db lg fa fr fb ka h2 ad mth k w Wd Md → va_P (dC, dI) clB (Md ++ (o, .inl (ka 5, 1, .inr (.inl g))) :: Wd) H → va_D (fun q : Nat => s.heap.size ≤ q) (Md ++ (o, .inl (ka 5, 1, .inr (.inl g))) :: Wd) → va_S (fun q : Nat => s.heap.size ≤ q) s.heap H locs → lv_has ls 7 [(0, .ref b), (1, .ref h), (2, .ref h2), (3, .ref o), (4, .int (nI (5 * k)))] → W p l e room_1 s m #[Value.ref b] below meth c H locs (47 + k) (111203 + 6 * k) (lw_Z below #[Value.ref b] s) (F0 m 23 ls []) := by
  obtain ⟨hx, hb, hr, hml, hown, hts, hX, hbl, hlocks, hgv⟩ := id C0
  have hbA : ¬ (fun q : Nat => s.heap.size ≤ q) b := Nat.not_le.mpr hbl
  intro n
  induction n with
  | zero =>
    intro k w mth g Wd Md H locs ls h1 h2
    exact absurd h2 (by omega)
  | succ n ih =>
    intro k w mth g Wd Md H locs ls h1 hn hw hR hP hD hS hl
    refine lv_iload hx hb dL_law_23 (lv_at hl 4 rfl) ?_
    refine lv_aload_n hx hb dL_law_25 rfl (lv_at hl 0 rfl) ?_
    refine va_slen hx hb hX hbl hbA hS dL_law_26 ?_
    refine lv_iconst (v := 5) hx hb dL_law_27 (by decide) ?_
    refine lv_isub hx hb dL_law_28 ?_
    have esub : (nI L - nI 5).toInt = (L : Int) - 5 := pk_sub_toInt (by omega) (by omega)
    have ek : (nI (5 * k)).toInt = ((5 * k : Nat) : Int) := nI_toInt (by omega)
    refine lv_icmp_gt (tgt := 630) hx hb dL_law_29 (by decide) (fun c_1 => ?_) (fun c_1 => ?_)
    · refine lv_iconst (v := 1) hx hb dL_law_630 (by decide) ?_
      refine va_forget (fun q hq => hS.2.2 q hq) ?_
      refine W.widen (k := 601024) (n := 7293034) (by omega) (by omega) ?_
      exact lw_ret hx hb hr hlocks dL_law_631
    have hk : 5 * k + 5 ≤ L := by
      rcases Nat.lt_or_ge L (5 * k + 5) with z | z
      · exact absurd (show nI L - nI 5 < nI (5 * k) from Int32.lt_iff_toInt_lt.mpr (by rw [esub, ek]; omega)) c_1
      · exact z
    have K : ∀ (mth' : Int32) (w' : Nat) (g' : Nat → Int64) (Wd' Md' : va_W) (H : Heap) (locs : List Loc) (ls : Array Slot), w' ≤ 12 * (k + 1) → RW h dr db lg fa fr fb ka h2 ad mth' (k + 1) w' Wd' Md' → va_P (dC, dI) clB (Md' ++ (o, .inl (ka 5, 1, .inr (.inl g'))) :: Wd') H → va_D (fun q : Nat => s.heap.size ≤ q) (Md' ++ (o, .inl (ka 5, 1, .inr (.inl g'))) :: Wd') → va_S (fun q : Nat => s.heap.size ≤ q) s.heap H locs → lv_has ls 7 [(0, .ref b), (1, .ref h), (2, .ref h2), (3, .ref o), (4, .int (nI (5 * k)))] → W p l e room_1 s m #[Value.ref b] below meth c H locs (47 + (k + 1)) (111203 + 6 * (k + 1)) (lw_Z below #[Value.ref b] s) (F0 m 624 ls []) := by
      intro mth' w' g' Wd' Md' H locs ls hw' hR' hP' hD' hS' hl'
      refine lv_iinc (v := nI (5 * (k + 1))) (lv' := [(4, .int (nI (5 * (k + 1)))), (0, .ref b), (1, .ref h), (2, .ref h2), (3, .ref o)]) hx hb dL_law_624 hl' (k := 4) rfl (by rw [show 5 * (k + 1) = 5 * k + 5 by omega, ← nI_add]; rfl) (by decide) rfl (fun ls hl => ?_)
      refine lv_goto (tgt := 23) hx hb dL_law_627 (by decide) ?_
      exact ih (k + 1) w' mth' g' Wd' Md' H locs ls (by omega) (by omega) hw' hR' hP' hD' hS' (lv_sub hl [1, 2, 3, 4, 0] rfl)
    refine lv_aload_n hx hb dL_law_32 rfl (lv_at hl 0 rfl) ?_
    refine lv_iload hx hb dL_law_33 (lv_at hl 4 rfl) ?_
    refine va_sld hx hb hX hbl hbA hS (vp_in_nI (n := 5 * k) (N := L) (by omega) (by omega)) dL_law_35 ?_
    refine lv_bipush (v := 15) hx hb dL_law_36 (by decide) ?_
    refine lv_iand hx hb dL_law_38 ?_
    generalize xs (nI (5 * k)).toNatClampNeg &&& 15 = y
    by_cases y0 : y = 0
    · refine lv_tableIn (off := 65) (tgt := 104) hx hb dL_law_39 (by rw [y0]; decide) (by rw [y0]; decide) (by rw [y0]; rfl) (by decide) ?_
      exact lc_pin hL C0 hst hE hXx hZz hNn hk hw hR hP hD hS hl K
    by_cases y1 : y = 1
    · refine lv_tableIn (off := 121) (tgt := 160) hx hb dL_law_39 (by rw [y1]; decide) (by rw [y1]; decide) (by rw [y1]; rfl) (by decide) ?_
      exact lc_remake hL C0 hst hE hXx hZz hNn hk hw hR hP hD hS hl K
    by_cases y2 : y = 2
    · refine lv_tableIn (off := 177) (tgt := 216) hx hb dL_law_39 (by rw [y2]; decide) (by rw [y2]; decide) (by rw [y2]; rfl) (by decide) ?_
      exact lc_unpin hL C0 hst hE hXx hZz hNn hk hw hR hP hD hS hl K
    by_cases y3 : y = 3
    · refine lv_tableIn (off := 202) (tgt := 241) hx hb dL_law_39 (by rw [y3]; decide) (by rw [y3]; decide) (by rw [y3]; rfl) (by decide) ?_
      exact lc_get hL C0 hst hE hXx hZz hNn hk hw hR hP hD hS hl K
    by_cases y4 : y = 4
    · refine lv_tableIn (off := 239) (tgt := 278) hx hb dL_law_39 (by rw [y4]; decide) (by rw [y4]; decide) (by rw [y4]; rfl) (by decide) ?_
      exact lc_set hL C0 hst hE hXx hZz hNn hk hw hR hP hD hS hl K
    by_cases y5 : y = 5
    · refine lv_tableIn (off := 300) (tgt := 339) hx hb dL_law_39 (by rw [y5]; decide) (by rw [y5]; decide) (by rw [y5]; rfl) (by decide) ?_
      exact lc_clean hL C0 hst hE hXx hZz hNn hk hw hR hP hD hS hl K
    by_cases y6 : y = 6
    · refine lv_tableIn (off := 356) (tgt := 395) hx hb dL_law_39 (by rw [y6]; decide) (by rw [y6]; decide) (by rw [y6]; rfl) (by decide) ?_
      exact lc_sweep hL C0 hst hE hXx hZz hNn hk hw hR hP hD hS hl K
    by_cases y7 : y = 7
    · refine lv_tableIn (off := 400) (tgt := 439) hx hb dL_law_39 (by rw [y7]; decide) (by rw [y7]; decide) (by rw [y7]; rfl) (by decide) ?_
      exact lc_charge hL C0 hst hE hXx hZz hNn hk hw hR hP hD hS hl K
    by_cases y8 : y = 8
    · refine lv_tableIn (off := 436) (tgt := 475) hx hb dL_law_39 (by rw [y8]; decide) (by rw [y8]; decide) (by rw [y8]; rfl) (by decide) ?_
      exact lc_flushed hL C0 hst hE hXx hZz hNn hk hw hR hP hD hS hl K
    by_cases y9 : y = 9
    · refine lv_tableIn (off := 461) (tgt := 500) hx hb dL_law_39 (by rw [y9]; decide) (by rw [y9]; decide) (by rw [y9]; rfl) (by decide) ?_
      exact lc_look hL C0 hst hE hXx hZz hNn hk hw hR hP hD hS hl K
    by_cases y10 : y = 10
    · refine lv_tableIn (off := 498) (tgt := 537) hx hb dL_law_39 (by rw [y10]; decide) (by rw [y10]; decide) (by rw [y10]; rfl) (by decide) ?_
      exact lc_disk hL C0 hst hE hXx hZz hNn hk hw hR hP hD hS hl K
    by_cases y11 : y = 11
    · refine lv_tableIn (off := 535) (tgt := 574) hx hb dL_law_39 (by rw [y11]; decide) (by rw [y11]; decide) (by rw [y11]; rfl) (by decide) ?_
      exact lc_torn hL C0 hst hE hXx hZz hNn hk hw hR hP hD hS hl K
    by_cases y12 : y = 12
    · refine lv_tableIn (off := 560) (tgt := 599) hx hb dL_law_39 (by rw [y12]; decide) (by rw [y12]; decide) (by rw [y12]; rfl) (by decide) ?_
      exact lc_count hL C0 hst hE hXx hZz hNn hk hw hR hP hD hS hl K
    refine lv_tableOut (tgt := 624) hx hb dL_law_39 (tk_out13 y0 y1 y2 y3 y4 y5 y6 y7 y8 y9 y10 y11 y12) (by decide) ?_
    refine W.widen (k := 47 + (k + 1)) (n := 111203 + 6 * (k + 1)) (by omega) (by omega) ?_
    exact K _ w _ _ _ _ _ _ (by omega) (RW_mono hR (by omega)) hP hD hS hl
