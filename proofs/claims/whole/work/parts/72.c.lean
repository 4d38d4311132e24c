set_option maxHeartbeats 4000000 in
set_option maxRecDepth 100000 in
theorem lc_pin {p : Program} {l : Launch} {e : Env} {s : State} {m : MethodId} {below : List Frame} {meth : Method} {c : Code} {dC : Nat → ClassId} {dI : Nat → Nat → Nat} {ka : Nat → ClassId} {sa : Nat → Nat} {b L : Nat} {xs : Nat → Int32} (hL : L ≤ 2560) (C0 : lw_At p s m meth c b L xs) (hst : l.stackTraces = false) (hE : tk_E dC dI ka s) (hXx : tk_X sa s) (hZz : tk_Z (fun q : Nat => s.heap.size ≤ q) s s.heap) (hNn : tk_N s) {h dr db lg fa : Nat} {fr fb : Nat → Nat} {h2 : Nat} {ad : Nat → Nat} {o : Nat} {k w : Nat} {mth : Int32} {g : Nat → Int64} {Wd Md : va_W} {H : Heap} {locs : List Loc} {ls : Array Slot} (hk : 5 * k + 5 ≤ L) (hw : w ≤ 12 * k) (hR : RW h dr db lg fa fr fb ka h2 ad mth k w Wd Md) (hP : va_P (dC, dI) clB (Md ++ (o, .inl (ka 5, 1, .inr (.inl g))) :: Wd) H) (hD : va_D (fun q : Nat => s.heap.size ≤ q) (Md ++ (o, .inl (ka 5, 1, .inr (.inl g))) :: Wd)) (hS : va_S (fun q : Nat => s.heap.size ≤ q) s.heap H locs) (hl : lv_has ls 7 [(0, .ref b), (1, .ref h), (2, .ref h2), (3, .ref o), (4, .int (nI (5 * k)))]) (K : ∀ (mth' : Int32) (w' : Nat) (g' : Nat → Int64) (Wd' Md' : va_W) (H : Heap) (locs : List Loc) (ls : Array Slot), w' ≤ 12 * (k + 1) → RW h dr db lg fa fr fb ka h2 ad mth' (k + 1) w' Wd' Md' → va_P (dC, dI) clB (Md' ++ (o, .inl (ka 5, 1, .inr (.inl g'))) :: Wd') H → va_D (fun q : Nat => s.heap.size ≤ q) (Md' ++ (o, .inl (ka 5, 1, .inr (.inl g'))) :: Wd') → va_S (fun q : Nat => s.heap.size ≤ q) s.heap H locs → lv_has ls 7 [(0, .ref b), (1, .ref h), (2, .ref h2), (3, .ref o), (4, .int (nI (5 * k)))] → W p l e room_1 s m #[Value.ref b] below meth c H locs (47 + (k + 1)) (111203 + 6 * (k + 1)) (lw_Z below #[Value.ref b] s) (F0 m 624 ls [])) : W p l e room_1 s m #[Value.ref b] below meth c H locs (47 + k) (111203 + 6 * k) (lw_Z below #[Value.ref b] s) (F0 m 104 ls []) := by
  obtain ⟨hx, hb, hr, hml, hown, hts, hX, hbl, hlocks, hgv⟩ := C0
  have hA : ∀ q : Nat, s.heap.size ≤ q → (fun q : Nat => s.heap.size ≤ q) q := fun _ h => h
  have hbA : ¬ (fun q : Nat => s.heap.size ≤ q) b := Nat.not_le.mpr hbl
  have hown : s.vm.findClass RL = some m.cls := hown
  have hK := hE.1
  have hts2 : ∀ w ∈ kL_pin :: lwg, w.before #[Value.ref b] s = true := fun w hw => by
    rcases List.mem_cons.mp hw with e | e
    · rw [e]; exact hts _ (lwg_in wi_214)
    · exact hts _ (lwg_in e)
  obtain ⟨fs, hW0⟩ := RW_W0 hR
  obtain ⟨fs2, hM0⟩ := RW_M0 hR
  obtain ⟨Wd', Md', k9, b9, hR', ⟨frM, loM, hfM, hlM, hMc⟩, hdis⟩ := S_pin l dC dI ka h dr db lg fa fr fb h2 ad mth k w Wd Md hst hR (by omega) (by omega) (xs (5 * k + 1))
  have hmW := (RW_mapW hR).trans (RW_mapW hR').symm
  obtain ⟨frT, loT, hfT, hlT, hTc⟩ := RW_thrown l dC dI hR'
  obtain ⟨fs3, hM3⟩ := RW_M0 hR'
  refine lv_aload_n hx hb dL_law_104 rfl (lv_at hl 1 rfl) ?_
  refine lv_aload_n hx hb dL_law_105 rfl (lv_at hl 0 rfl) ?_
  refine lv_iload hx hb dL_law_106 (lv_at hl 4 rfl) ?_
  refine lv_iconst (v := 1) hx hb dL_law_108 (by decide) ?_
  refine lv_iadd hx hb dL_law_109 ?_
  refine lw_ld (i := 5 * k) (j := 1) hx hb hX hbl hbA hS rfl (by omega) (by omega) dL_law_110 ?_
  refine lv_aload_n hx hb dL_law_111 rfl (lv_at hl 3 rfl) ?_
  have K2 : ∀ (g' : Nat → Int64) (H : Heap) (locs : List Loc), (k9 = 0 → g' 0 = b9.toInt64) → va_P (dC, dI) clB (Md ++ (o, .inl (ka 5, 1, .inr (.inl g'))) :: Wd') H → va_D (fun q : Nat => s.heap.size ≤ q) (Md ++ (o, .inl (ka 5, 1, .inr (.inl g'))) :: Wd') → va_S (fun q : Nat => s.heap.size ≤ q) s.heap H locs → W p l e room_1 s m #[Value.ref b] below meth c H locs (47 + k + 1) (111203 + 6 * k + 6) (lw_Z below #[Value.ref b] s) (F0 m 115 ls [.int k9]) := by
    clear hP hD hS
    intro g' H locs hg0 hP hD hS
    refine lv_istore (lv' := [(5, .int k9), (0, .ref b), (1, .ref h), (2, .ref h2), (3, .ref o), (4, .int (nI (5 * k)))]) hx hb dL_law_115 hl (by decide) rfl (fun ls hl => ?_)
    refine lv_aload_n hx hb dL_law_117 rfl (lv_at hl 3 rfl) ?_
    refine lv_aload_n hx hb dL_law_118 rfl (lv_at hl 1 rfl) ?_
    refine lv_iload hx hb dL_law_119 (lv_at hl 5 rfl) ?_
    refine lv_iconst (v := 1) hx hb dL_law_121 (by decide) ?_
    refine lv_iadd hx hb dL_law_122 ?_
    refine lw_ld (i := 5 * k) (j := 1) hx hb hX hbl hbA hS rfl (by omega) (by omega) dL_law_123 ?_
    have hP2 := tk_commP hP
    have hD2 := tk_commD hD
    have hFc := tk_freeG (ws := (o, .inl (ka 5, 1, .inr (.inl g'))) :: Wd') (wc := Md) hD2 hS hA
    refine va_calli (va_runV (As := [.int (xs (5 * k + 1))]) (rest := []) ⟨hx, hb, hml, hown, hts2⟩ (hMc _) (cwV 1 hts2 (tw_V wi_580 wi_581 wi_582 wi_28 wi_583) rfl rfl rfl (by decide +kernel) ⟨by show frM + 1 ≤ 12; omega, by show 8 + (3 + 11) + loM ≤ 428; omega⟩) ⟨fun a U g mk q => ⟨q.1, q.2.1, tk_E.call q.2.2.1, q.2.2.2⟩, va_recv hK hP (ci := 4) (q0 := 0) rfl (app_0 hM0), fun U hU hW => ⟨rfl, by rw [hU], tk_E.warm hW hE, by rw [hU]; exact tk_lastP (ws := (o, .inl (ka 5, 1, .inr (.inl g'))) :: Wd') hP2, (tk_lastD (ws := (o, .inl (ka 5, 1, .inr (.inl g'))) :: Wd') hD2).weaken (fun _ _ _ _ => trivial)⟩⟩ rfl rfl hl.1 rfl (lv_room (Nat.le_of_ble_eq_true rfl)) dL_law_124 ⟨by show 47 + k + 1 + 0 ≤ 601024; omega, by show 111203 + 6 * k + 6 + 0 ≤ 7293034; omega⟩) hS (fun q _ h => hFc q h) hFc (fun r9 u9 t H1 locs ht hvm hw9 hB hz1 hk1 hS => ?_)
    subst hw9
    have hB1 : va_P (dC, dI) clB Md' H1 := by rw [← ht]; exact hB
    obtain ⟨hP, hD⟩ := tk_joinW (ws := (o, .inl (ka 5, 1, .inr (.inl g'))) :: Wd') (wc := Md) hP2 hD2 hk1 hFc hB1 ((RW_mapM hR).trans (RW_mapM hR').symm)
    have hP := tk_commP hP
    have hD := tk_commD hD
    generalize H1 = H at hP hS ⊢
    refine lv_istore (lv' := [(6, .int r9), (5, .int k9), (0, .ref b), (1, .ref h), (2, .ref h2), (3, .ref o), (4, .int (nI (5 * k)))]) hx hb dL_law_127 hl (by decide) rfl (fun ls hl => ?_)
    refine lv_aload_n hx hb dL_law_129 rfl (lv_at hl 4 rfl) ?_
    refine vp_callSi (va_Run.run (va_runV (As := []) (rest := []) ⟨hx, hb, hml, hown, hts2⟩ hTc (cwV 0 hts2 (tw_V wi_542 wi_543 wi_544 wi_28 wi_545) rfl rfl rfl (by decide +kernel) ⟨by show frT + 1 ≤ 12; omega, by show 8 + (1 + 11) + loT ≤ 428; omega⟩) ⟨fun a U g mk q => ⟨q.1, tk_E.call q.2.1, q.2.2⟩, va_recv hK hP (ci := 4) (q0 := 0) rfl (app_0 hM3), fun U hU hW => ⟨rfl, tk_E.warm hW hE, by rw [hU]; exact tk_lastP (ws := (o, .inl (ka 5, 1, .inr (.inl g'))) :: Wd') (tk_commP hP)⟩⟩ rfl rfl hl.1 rfl (lv_room (Nat.le_of_ble_eq_true rfl)) dL_law_130 ⟨by show 47 + k + 1 + 0 ≤ 601024; omega, by show 111203 + 6 * k + 6 + 0 ≤ 7293034; omega⟩)) (fun r8 er8 => ?_)
    subst er8
    refine lv_iload hx hb dL_law_133 (lv_at hl 1 rfl) ?_
    refine lv_icmp_eq (tgt := 140) hx hb dL_law_135 (by decide) (fun c_1 => ?_) (fun c_1 => absurd rfl c_1)
    refine lv_iload hx hb dL_law_140 (lv_at hl 1 rfl) ?_
    refine lv_if_ne (tgt := 157) hx hb dL_law_142 (by decide) (fun c_2 => ?_) (fun c_2 => ?_)
    · refine lv_goto (tgt := 624) hx hb dL_law_157 (by decide) ?_
      exact K _ (w + 1) _ _ _ _ _ _ (by omega) hR' hP hD hS (lv_sub hl [2, 3, 4, 5, 6] rfl)
    · refine lv_aload_n hx hb dL_law_145 rfl (lv_at hl 5 rfl) ?_
      refine lv_iconst (v := 0) hx hb dL_law_146 (by decide) ?_
      refine va_lald hx hb hK hP Md'.length 5 app_at rfl (vp_in_nI (n := 0) (N := 1) (by decide) (by decide)) dL_law_147 ?_
      refine lv_iload hx hb dL_law_148 (lv_at hl 0 rfl) ?_
      refine lv_i2l hx hb dL_law_150 rfl ?_
      have eg : g' (nI 0).toNatClampNeg = r9.toInt64 := hg0 c_2
      rw [show g' (0 : Int32).toNatClampNeg = r9.toInt64 from eg]
      refine tk_lcmpE hx hb dL_law_151 ?_
      refine lv_if_eq (tgt := 157) hx hb dL_law_152 (by decide) (fun c_3 => ?_) (fun c_3 => absurd rfl c_3)
      refine lv_goto (tgt := 624) hx hb dL_law_157 (by decide) ?_
      exact K _ (w + 1) _ _ _ _ _ _ (by omega) hR' hP hD hS (lv_sub hl [2, 3, 4, 5, 6] rfl)
  rcases hdis with ⟨rfl, hO⟩ | ⟨rfl, hO⟩ | ⟨rfl, hO⟩ | ⟨rfl, hO⟩ | ⟨rfl, hO⟩
  · have hP1 := hP
    have hD1 := hD
    have hFc := tk_freeG (ws := Md) (wc := ((o, .inl (ka 5, 1, .inr (.inl g))) :: Wd)) hD1 hS hA
    refine va_calli (vx_runSW (As := [.ref h, .int (xs (5 * k + 1)), .ref o]) (rest := []) ⟨hx, hb, hml, hown, hts2⟩ (c_L_pin_ok l dC dI ka _ h o (xs (5 * k + 1)) b9 g Wd Wd' fs hW0 hmW hO) (vx_cwSW 3 hts2 (tw_A wi_212 wi_213 wi_23 wi_214) rfl rfl rfl (by decide +kernel) ⟨Nat.le_of_ble_eq_true rfl, Nat.le_of_ble_eq_true rfl⟩) ⟨fun a U g mk q => ⟨q.1, q.2.1, tk_E.call q.2.2.1, q.2.2.2⟩, fun U hU hW => ⟨rfl, by rw [hU], tk_E.warm hW hE, by rw [hU]; exact tk_lastP (ws := Md) hP1, (tk_lastD (ws := Md) hD1).weaken (fun _ _ _ _ => trivial)⟩⟩ rfl rfl hl.1 rfl (lv_room (Nat.le_of_ble_eq_true rfl)) dL_law_112 ⟨by show 47 + k + 0 ≤ 601024; omega, by show 111203 + 6 * k + 0 ≤ 7293034; omega⟩) hS (fun q _ h => hFc q h) hFc (fun r9 u9 t H1 locs ht hvm hw9 hB hz1 hk1 hS => ?_)
    subst hw9
    have hB1 : va_P (dC, dI) clB ((o, .inl (ka 5, 1, .inr (.inl (vp_updL g 0 b9.toInt64)))) :: Wd') H1 := by rw [← ht]; exact hB
    obtain ⟨hP, hD⟩ := tk_joinW (ws := Md) (wc := ((o, .inl (ka 5, 1, .inr (.inl g))) :: Wd)) hP1 hD1 hk1 hFc hB1 (by rw [List.map_cons, List.map_cons, hmW])
    refine W.widen (k := 47 + k + 1) (n := 111203 + 6 * k + 6) (by omega) (by omega) ?_
    exact K2 (vp_updL g 0 b9.toInt64) H1 locs (fun _ => pk_uLs) hP hD hS
  · have hP1 := hP
    have hD1 := hD
    have hFc := tk_freeG (ws := Md) (wc := ((o, .inl (ka 5, 1, .inr (.inl g))) :: Wd)) hD1 hS hA
    refine va_calli (vx_runSW (As := [.ref h, .int (xs (5 * k + 1)), .ref o]) (rest := []) ⟨hx, hb, hml, hown, hts2⟩ (c_L_pin_IAE l dC dI ka sa _ h o (xs (5 * k + 1)) g Wd Wd' fs hW0 hmW hO) (vx_cwSW 3 hts2 (tw_A wi_212 wi_213 wi_23 wi_214) rfl rfl rfl (by decide +kernel) ⟨Nat.le_of_ble_eq_true rfl, Nat.le_of_ble_eq_true rfl⟩) ⟨fun a U g mk q => ⟨q.1, q.2.1, tk_E.call q.2.2.1, tk_X.call q.2.2.2.1, tk_Z.call q.2.2.2.2.1, tk_N.call q.2.2.2.2.2.1, q.2.2.2.2.2.2⟩, fun U hU hW => ⟨rfl, by rw [hU], tk_E.warm hW hE, tk_X.warm hW hXx, tk_Z.at hZz hS hU hW hFc, tk_N.moved hW.alike hNn, by rw [hU]; exact tk_lastP (ws := Md) hP1, (tk_lastD (ws := Md) hD1).weaken (fun _ _ _ _ => trivial)⟩⟩ rfl rfl hl.1 rfl (lv_room (Nat.le_of_ble_eq_true rfl)) dL_law_112 ⟨by show 47 + k + 1 ≤ 601024; omega, by show 111203 + 6 * k + 6 ≤ 7293034; omega⟩) hS (fun q _ h => hFc q h) hFc (fun r9 u9 t H1 locs ht hvm hw9 hB hz1 hk1 hS => ?_)
    subst hw9
    have hB1 : va_P (dC, dI) clB ((o, .inl (ka 5, 1, .inr (.inl g))) :: Wd') H1 := by rw [← ht]; exact hB
    obtain ⟨hP, hD⟩ := tk_joinW (ws := Md) (wc := ((o, .inl (ka 5, 1, .inr (.inl g))) :: Wd)) hP1 hD1 hk1 hFc hB1 (by rw [List.map_cons, List.map_cons, hmW])
    exact K2 g H1 locs (fun z => absurd z (by decide)) hP hD hS
  · have hP1 := hP
    have hD1 := hD
    have hFc := tk_freeG (ws := Md) (wc := ((o, .inl (ka 5, 1, .inr (.inl g))) :: Wd)) hD1 hS hA
    refine va_calli (vx_runSW (As := [.ref h, .int (xs (5 * k + 1)), .ref o]) (rest := []) ⟨hx, hb, hml, hown, hts2⟩ (c_L_pin_ISE l dC dI ka sa _ h o (xs (5 * k + 1)) g Wd Wd' fs hW0 hmW hO) (vx_cwSW 3 hts2 (tw_A wi_212 wi_213 wi_23 wi_214) rfl rfl rfl (by decide +kernel) ⟨Nat.le_of_ble_eq_true rfl, Nat.le_of_ble_eq_true rfl⟩) ⟨fun a U g mk q => ⟨q.1, q.2.1, tk_E.call q.2.2.1, tk_X.call q.2.2.2.1, tk_Z.call q.2.2.2.2.1, tk_N.call q.2.2.2.2.2.1, q.2.2.2.2.2.2⟩, fun U hU hW => ⟨rfl, by rw [hU], tk_E.warm hW hE, tk_X.warm hW hXx, tk_Z.at hZz hS hU hW hFc, tk_N.moved hW.alike hNn, by rw [hU]; exact tk_lastP (ws := Md) hP1, (tk_lastD (ws := Md) hD1).weaken (fun _ _ _ _ => trivial)⟩⟩ rfl rfl hl.1 rfl (lv_room (Nat.le_of_ble_eq_true rfl)) dL_law_112 ⟨by show 47 + k + 1 ≤ 601024; omega, by show 111203 + 6 * k + 6 ≤ 7293034; omega⟩) hS (fun q _ h => hFc q h) hFc (fun r9 u9 t H1 locs ht hvm hw9 hB hz1 hk1 hS => ?_)
    subst hw9
    have hB1 : va_P (dC, dI) clB ((o, .inl (ka 5, 1, .inr (.inl g))) :: Wd') H1 := by rw [← ht]; exact hB
    obtain ⟨hP, hD⟩ := tk_joinW (ws := Md) (wc := ((o, .inl (ka 5, 1, .inr (.inl g))) :: Wd)) hP1 hD1 hk1 hFc hB1 (by rw [List.map_cons, List.map_cons, hmW])
    exact K2 g H1 locs (fun z => absurd z (by decide)) hP hD hS
  · have hP1 := hP
    have hD1 := hD
    have hFc := tk_freeG (ws := Md) (wc := ((o, .inl (ka 5, 1, .inr (.inl g))) :: Wd)) hD1 hS hA
    refine va_calli (vx_runSW (As := [.ref h, .int (xs (5 * k + 1)), .ref o]) (rest := []) ⟨hx, hb, hml, hown, hts2⟩ (c_L_pin_NSE l dC dI ka sa _ h o (xs (5 * k + 1)) g Wd Wd' fs hW0 hmW hO) (vx_cwSW 3 hts2 (tw_A wi_212 wi_213 wi_23 wi_214) rfl rfl rfl (by decide +kernel) ⟨Nat.le_of_ble_eq_true rfl, Nat.le_of_ble_eq_true rfl⟩) ⟨fun a U g mk q => ⟨q.1, q.2.1, tk_E.call q.2.2.1, tk_X.call q.2.2.2.1, tk_Z.call q.2.2.2.2.1, tk_N.call q.2.2.2.2.2.1, q.2.2.2.2.2.2⟩, fun U hU hW => ⟨rfl, by rw [hU], tk_E.warm hW hE, tk_X.warm hW hXx, tk_Z.at hZz hS hU hW hFc, tk_N.moved hW.alike hNn, by rw [hU]; exact tk_lastP (ws := Md) hP1, (tk_lastD (ws := Md) hD1).weaken (fun _ _ _ _ => trivial)⟩⟩ rfl rfl hl.1 rfl (lv_room (Nat.le_of_ble_eq_true rfl)) dL_law_112 ⟨by show 47 + k + 1 ≤ 601024; omega, by show 111203 + 6 * k + 6 ≤ 7293034; omega⟩) hS (fun q _ h => hFc q h) hFc (fun r9 u9 t H1 locs ht hvm hw9 hB hz1 hk1 hS => ?_)
    subst hw9
    have hB1 : va_P (dC, dI) clB ((o, .inl (ka 5, 1, .inr (.inl g))) :: Wd') H1 := by rw [← ht]; exact hB
    obtain ⟨hP, hD⟩ := tk_joinW (ws := Md) (wc := ((o, .inl (ka 5, 1, .inr (.inl g))) :: Wd)) hP1 hD1 hk1 hFc hB1 (by rw [List.map_cons, List.map_cons, hmW])
    exact K2 g H1 locs (fun z => absurd z (by decide)) hP hD hS
  · have hP1 := hP
    have hD1 := hD
    have hFc := tk_freeG (ws := Md) (wc := ((o, .inl (ka 5, 1, .inr (.inl g))) :: Wd)) hD1 hS hA
    refine va_calli (vx_runSW (As := [.ref h, .int (xs (5 * k + 1)), .ref o]) (rest := []) ⟨hx, hb, hml, hown, hts2⟩ (c_L_pin_UOE l dC dI ka sa _ h o (xs (5 * k + 1)) g Wd Wd' fs hW0 hmW hO) (vx_cwSW 3 hts2 (tw_A wi_212 wi_213 wi_23 wi_214) rfl rfl rfl (by decide +kernel) ⟨Nat.le_of_ble_eq_true rfl, Nat.le_of_ble_eq_true rfl⟩) ⟨fun a U g mk q => ⟨q.1, q.2.1, tk_E.call q.2.2.1, tk_X.call q.2.2.2.1, tk_Z.call q.2.2.2.2.1, tk_N.call q.2.2.2.2.2.1, q.2.2.2.2.2.2⟩, fun U hU hW => ⟨rfl, by rw [hU], tk_E.warm hW hE, tk_X.warm hW hXx, tk_Z.at hZz hS hU hW hFc, tk_N.moved hW.alike hNn, by rw [hU]; exact tk_lastP (ws := Md) hP1, (tk_lastD (ws := Md) hD1).weaken (fun _ _ _ _ => trivial)⟩⟩ rfl rfl hl.1 rfl (lv_room (Nat.le_of_ble_eq_true rfl)) dL_law_112 ⟨by show 47 + k + 1 ≤ 601024; omega, by show 111203 + 6 * k + 6 ≤ 7293034; omega⟩) hS (fun q _ h => hFc q h) hFc (fun r9 u9 t H1 locs ht hvm hw9 hB hz1 hk1 hS => ?_)
    subst hw9
    have hB1 : va_P (dC, dI) clB ((o, .inl (ka 5, 1, .inr (.inl g))) :: Wd') H1 := by rw [← ht]; exact hB
    obtain ⟨hP, hD⟩ := tk_joinW (ws := Md) (wc := ((o, .inl (ka 5, 1, .inr (.inl g))) :: Wd)) hP1 hD1 hk1 hFc hB1 (by rw [List.map_cons, List.map_cons, hmW])
    exact K2 g H1 locs (fun z => absurd z (by decide)) hP hD hS
