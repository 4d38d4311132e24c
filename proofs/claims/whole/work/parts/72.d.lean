set_option maxHeartbeats 4000000 in
set_option maxRecDepth 100000 in
theorem lc_remake {p : Program} {l : Launch} {e : Env} {s : State} {m : MethodId} {below : List Frame} {meth : Method} {c : Code} {dC : Nat → ClassId} {dI : Nat → Nat → Nat} {ka : Nat → ClassId} {sa : Nat → Nat} {b L : Nat} {xs : Nat → Int32} (hL : L ≤ 2560) (C0 : lw_At p s m meth c b L xs) (hst : l.stackTraces = false) (hE : tk_E dC dI ka s) (hXx : tk_X sa s) (hZz : tk_Z (fun q : Nat => s.heap.size ≤ q) s s.heap) (hNn : tk_N s) {h dr db lg fa : Nat} {fr fb : Nat → Nat} {h2 : Nat} {ad : Nat → Nat} {o : Nat} {k w : Nat} {mth : Int32} {g : Nat → Int64} {Wd Md : va_W} {H : Heap} {locs : List Loc} {ls : Array Slot} (hk : 5 * k + 5 ≤ L) (hw : w ≤ 12 * k) (hR : RW h dr db lg fa fr fb ka h2 ad mth k w Wd Md) (hP : va_P (dC, dI) clB (Md ++ (o, .inl (ka 5, 1, .inr (.inl g))) :: Wd) H) (hD : va_D (fun q : Nat => s.heap.size ≤ q) (Md ++ (o, .inl (ka 5, 1, .inr (.inl g))) :: Wd)) (hS : va_S (fun q : Nat => s.heap.size ≤ q) s.heap H locs) (hl : lv_has ls 7 [(0, .ref b), (1, .ref h), (2, .ref h2), (3, .ref o), (4, .int (nI (5 * k)))]) (K : ∀ (mth' : Int32) (w' : Nat) (g' : Nat → Int64) (Wd' Md' : va_W) (H : Heap) (locs : List Loc) (ls : Array Slot), w' ≤ 12 * (k + 1) → RW h dr db lg fa fr fb ka h2 ad mth' (k + 1) w' Wd' Md' → va_P (dC, dI) clB (Md' ++ (o, .inl (ka 5, 1, .inr (.inl g'))) :: Wd') H → va_D (fun q : Nat => s.heap.size ≤ q) (Md' ++ (o, .inl (ka 5, 1, .inr (.inl g'))) :: Wd') → va_S (fun q : Nat => s.heap.size ≤ q) s.heap H locs → lv_has ls 7 [(0, .ref b), (1, .ref h), (2, .ref h2), (3, .ref o), (4, .int (nI (5 * k)))] → W p l e room_1 s m #[Value.ref b] below meth c H locs (47 + (k + 1)) (111203 + 6 * (k + 1)) (lw_Z below #[Value.ref b] s) (F0 m 624 ls [])) : W p l e room_1 s m #[Value.ref b] below meth c H locs (47 + k) (111203 + 6 * k) (lw_Z below #[Value.ref b] s) (F0 m 160 ls []) := by
  obtain ⟨hx, hb, hr, hml, hown, hts, hX, hbl, hlocks, hgv⟩ := C0
  have hA : ∀ q : Nat, s.heap.size ≤ q → (fun q : Nat => s.heap.size ≤ q) q := fun _ h => h
  have hbA : ¬ (fun q : Nat => s.heap.size ≤ q) b := Nat.not_le.mpr hbl
  have hown : s.vm.findClass RL = some m.cls := hown
  have hK := hE.1
  have hts2 : ∀ w ∈ kL_pin :: lwg, w.before #[Value.ref b] s = true := fun w hw => by
    rcases List.mem_cons.mp hw with e | e
    · rw [e]; exact hts _ (lwg_in wi_214)
    · exact hts _ (lwg_in e)
  obtain ⟨fs, hW0⟩ := RW_W0 hR
  obtain ⟨fs2, hM0⟩ := RW_M0 hR
  obtain ⟨Wd', Md', k9, b9, hR', ⟨frM, loM, hfM, hlM, hMc⟩, hdis⟩ := S_remake l dC dI ka h dr db lg fa fr fb h2 ad mth k w Wd Md hst hR (by omega) (by omega) (xs (5 * k + 1))
  have hmW := (RW_mapW hR).trans (RW_mapW hR').symm
  obtain ⟨frT, loT, hfT, hlT, hTc⟩ := RW_thrown l dC dI hR'
  obtain ⟨fs3, hM3⟩ := RW_M0 hR'
  refine lv_aload_n hx hb dL_law_160 rfl (lv_at hl 1 rfl) ?_
  refine lv_aload_n hx hb dL_law_161 rfl (lv_at hl 0 rfl) ?_
  refine lv_iload hx hb dL_law_162 (lv_at hl 4 rfl) ?_
  refine lv_iconst (v := 1) hx hb dL_law_164 (by decide) ?_
  refine lv_iadd hx hb dL_law_165 ?_
  refine lw_ld (i := 5 * k) (j := 1) hx hb hX hbl hbA hS rfl (by omega) (by omega) dL_law_166 ?_
  refine lv_aload_n hx hb dL_law_167 rfl (lv_at hl 3 rfl) ?_
  have K2 : ∀ (g' : Nat → Int64) (H : Heap) (locs : List Loc), (k9 = 0 → g' 0 = b9.toInt64) → va_P (dC, dI) clB (Md ++ (o, .inl (ka 5, 1, .inr (.inl g'))) :: Wd') H → va_D (fun q : Nat => s.heap.size ≤ q) (Md ++ (o, .inl (ka 5, 1, .inr (.inl g'))) :: Wd') → va_S (fun q : Nat => s.heap.size ≤ q) s.heap H locs → W p l e room_1 s m #[Value.ref b] below meth c H locs (47 + k + 1) (111203 + 6 * k + 6) (lw_Z below #[Value.ref b] s) (F0 m 171 ls [.int k9]) := by
    clear hP hD hS
    intro g' H locs hg0 hP hD hS
    refine lv_istore (lv' := [(5, .int k9), (0, .ref b), (1, .ref h), (2, .ref h2), (3, .ref o), (4, .int (nI (5 * k)))]) hx hb dL_law_171 hl (by decide) rfl (fun ls hl => ?_)
    refine lv_aload_n hx hb dL_law_173 rfl (lv_at hl 3 rfl) ?_
    refine lv_aload_n hx hb dL_law_174 rfl (lv_at hl 1 rfl) ?_
    refine lv_iload hx hb dL_law_175 (lv_at hl 5 rfl) ?_
    refine lv_iconst (v := 1) hx hb dL_law_177 (by decide) ?_
    refine lv_iadd hx hb dL_law_178 ?_
    refine lw_ld (i := 5 * k) (j := 1) hx hb hX hbl hbA hS rfl (by omega) (by omega) dL_law_179 ?_
    have hP2 := tk_commP hP
    have hD2 := tk_commD hD
    have hFc := tk_freeG (ws := (o, .inl (ka 5, 1, .inr (.inl g'))) :: Wd') (wc := Md) hD2 hS hA
    refine va_calli (va_runV (As := [.int (xs (5 * k + 1))]) (rest := []) ⟨hx, hb, hml, hown, hts2⟩ (hMc _) (cwV 1 hts2 (tw_V wi_613 wi_614 wi_615 wi_28 wi_616) rfl rfl rfl (by decide +kernel) ⟨by show frM + 1 ≤ 12; omega, by show 8 + (3 + 11) + loM ≤ 428; omega⟩) ⟨fun a U g mk q => ⟨q.1, q.2.1, tk_E.call q.2.2.1, q.2.2.2⟩, va_recv hK hP (ci := 4) (q0 := 0) rfl (app_0 hM0), fun U hU hW => ⟨rfl, by rw [hU], tk_E.warm hW hE, by rw [hU]; exact tk_lastP (ws := (o, .inl (ka 5, 1, .inr (.inl g'))) :: Wd') hP2, (tk_lastD (ws := (o, .inl (ka 5, 1, .inr (.inl g'))) :: Wd') hD2).weaken (fun _ _ _ _ => trivial)⟩⟩ rfl rfl hl.1 rfl (lv_room (Nat.le_of_ble_eq_true rfl)) dL_law_180 ⟨by show 47 + k + 1 + 0 ≤ 601024; omega, by show 111203 + 6 * k + 6 + 0 ≤ 7293034; omega⟩) hS (fun q _ h => hFc q h) hFc (fun r9 u9 t H1 locs ht hvm hw9 hB hz1 hk1 hS => ?_)
    subst hw9
    have hB1 : va_P (dC, dI) clB Md' H1 := by rw [← ht]; exact hB
    obtain ⟨hP, hD⟩ := tk_joinW (ws := (o, .inl (ka 5, 1, .inr (.inl g'))) :: Wd') (wc := Md) hP2 hD2 hk1 hFc hB1 ((RW_mapM hR).trans (RW_mapM hR').symm)
    have hP := tk_commP hP
    have hD := tk_commD hD
    generalize H1 = H at hP hS ⊢
    refine lv_istore (lv' := [(6, .int r9), (5, .int k9), (0, .ref b), (1, .ref h), (2, .ref h2), (3, .ref o), (4, .int (nI (5 * k)))]) hx hb dL_law_183 hl (by decide) rfl (fun ls hl => ?_)
    refine lv_aload_n hx hb dL_law_185 rfl (lv_at hl 4 rfl) ?_
    refine vp_callSi (va_Run.run (va_runV (As := []) (rest := []) ⟨hx, hb, hml, hown, hts2⟩ hTc (cwV 0 hts2 (tw_V wi_542 wi_543 wi_544 wi_28 wi_545) rfl rfl rfl (by decide +kernel) ⟨by show frT + 1 ≤ 12; omega, by show 8 + (1 + 11) + loT ≤ 428; omega⟩) ⟨fun a U g mk q => ⟨q.1, tk_E.call q.2.1, q.2.2⟩, va_recv hK hP (ci := 4) (q0 := 0) rfl (app_0 hM3), fun U hU hW => ⟨rfl, tk_E.warm hW hE, by rw [hU]; exact tk_lastP (ws := (o, .inl (ka 5, 1, .inr (.inl g'))) :: Wd') (tk_commP hP)⟩⟩ rfl rfl hl.1 rfl (lv_room (Nat.le_of_ble_eq_true rfl)) dL_law_186 ⟨by show 47 + k + 1 + 0 ≤ 601024; omega, by show 111203 + 6 * k + 6 + 0 ≤ 7293034; omega⟩)) (fun r8 er8 => ?_)
    subst er8
    refine lv_iload hx hb dL_law_189 (lv_at hl 1 rfl) ?_
    refine lv_icmp_eq (tgt := 196) hx hb dL_law_191 (by decide) (fun c_1 => ?_) (fun c_1 => absurd rfl c_1)
    refine lv_iload hx hb dL_law_196 (lv_at hl 1 rfl) ?_
    refine lv_if_ne (tgt := 213) hx hb dL_law_198 (by decide) (fun c_2 => ?_) (fun c_2 => ?_)
    · refine lv_goto (tgt := 624) hx hb dL_law_213 (by decide) ?_
      exact K _ (w + 1) _ _ _ _ _ _ (by omega) hR' hP hD hS (lv_sub hl [2, 3, 4, 5, 6] rfl)
    · refine lv_aload_n hx hb dL_law_201 rfl (lv_at hl 5 rfl) ?_
      refine lv_iconst (v := 0) hx hb dL_law_202 (by decide) ?_
      refine va_lald hx hb hK hP Md'.length 5 app_at rfl (vp_in_nI (n := 0) (N := 1) (by decide) (by decide)) dL_law_203 ?_
      refine lv_iload hx hb dL_law_204 (lv_at hl 0 rfl) ?_
      refine lv_i2l hx hb dL_law_206 rfl ?_
      have eg : g' (nI 0).toNatClampNeg = r9.toInt64 := hg0 c_2
      rw [show g' (0 : Int32).toNatClampNeg = r9.toInt64 from eg]
      refine tk_lcmpE hx hb dL_law_207 ?_
      refine lv_if_eq (tgt := 213) hx hb dL_law_208 (by decide) (fun c_3 => ?_) (fun c_3 => absurd rfl c_3)
      refine lv_goto (tgt := 624) hx hb dL_law_213 (by decide) ?_
      exact K _ (w + 1) _ _ _ _ _ _ (by omega) hR' hP hD hS (lv_sub hl [2, 3, 4, 5, 6] rfl)
  rcases hdis with ⟨rfl, hO⟩ | ⟨rfl, hO⟩ | ⟨rfl, hO⟩ | ⟨rfl, hO⟩
  · have hP1 := hP
    have hD1 := hD
    have hFc := tk_freeG (ws := Md) (wc := ((o, .inl (ka 5, 1, .inr (.inl g))) :: Wd)) hD1 hS hA
    refine va_calli (vx_runSW (As := [.ref h, .int (xs (5 * k + 1)), .ref o]) (rest := []) ⟨hx, hb, hml, hown, hts2⟩ (c_L_remake_ok l dC dI ka _ h o (xs (5 * k + 1)) b9 g Wd Wd' fs hW0 hmW hO) (vx_cwSW 3 hts2 (tw_A wi_413 wi_414 wi_23 wi_415) rfl rfl rfl (by decide +kernel) ⟨Nat.le_of_ble_eq_true rfl, Nat.le_of_ble_eq_true rfl⟩) ⟨fun a U g mk q => ⟨q.1, q.2.1, tk_E.call q.2.2.1, q.2.2.2⟩, fun U hU hW => ⟨rfl, by rw [hU], tk_E.warm hW hE, by rw [hU]; exact tk_lastP (ws := Md) hP1, (tk_lastD (ws := Md) hD1).weaken (fun _ _ _ _ => trivial)⟩⟩ rfl rfl hl.1 rfl (lv_room (Nat.le_of_ble_eq_true rfl)) dL_law_168 ⟨by show 47 + k + 0 ≤ 601024; omega, by show 111203 + 6 * k + 0 ≤ 7293034; omega⟩) hS (fun q _ h => hFc q h) hFc (fun r9 u9 t H1 locs ht hvm hw9 hB hz1 hk1 hS => ?_)
    subst hw9
    have hB1 : va_P (dC, dI) clB ((o, .inl (ka 5, 1, .inr (.inl (vp_updL g 0 b9.toInt64)))) :: Wd') H1 := by rw [← ht]; exact hB
    obtain ⟨hP, hD⟩ := tk_joinW (ws := Md) (wc := ((o, .inl (ka 5, 1, .inr (.inl g))) :: Wd)) hP1 hD1 hk1 hFc hB1 (by rw [List.map_cons, List.map_cons, hmW])
    refine W.widen (k := 47 + k + 1) (n := 111203 + 6 * k + 6) (by omega) (by omega) ?_
    exact K2 (vp_updL g 0 b9.toInt64) H1 locs (fun _ => pk_uLs) hP hD hS
  · have hP1 := hP
    have hD1 := hD
    have hFc := tk_freeG (ws := Md) (wc := ((o, .inl (ka 5, 1, .inr (.inl g))) :: Wd)) hD1 hS hA
    refine va_calli (vx_runSW (As := [.ref h, .int (xs (5 * k + 1)), .ref o]) (rest := []) ⟨hx, hb, hml, hown, hts2⟩ (c_L_remake_IAE l dC dI ka sa _ h o (xs (5 * k + 1)) g Wd Wd' fs hW0 hmW hO) (vx_cwSW 3 hts2 (tw_A wi_413 wi_414 wi_23 wi_415) rfl rfl rfl (by decide +kernel) ⟨Nat.le_of_ble_eq_true rfl, Nat.le_of_ble_eq_true rfl⟩) ⟨fun a U g mk q => ⟨q.1, q.2.1, tk_E.call q.2.2.1, tk_X.call q.2.2.2.1, tk_Z.call q.2.2.2.2.1, tk_N.call q.2.2.2.2.2.1, q.2.2.2.2.2.2⟩, fun U hU hW => ⟨rfl, by rw [hU], tk_E.warm hW hE, tk_X.warm hW hXx, tk_Z.at hZz hS hU hW hFc, tk_N.moved hW.alike hNn, by rw [hU]; exact tk_lastP (ws := Md) hP1, (tk_lastD (ws := Md) hD1).weaken (fun _ _ _ _ => trivial)⟩⟩ rfl rfl hl.1 rfl (lv_room (Nat.le_of_ble_eq_true rfl)) dL_law_168 ⟨by show 47 + k + 1 ≤ 601024; omega, by show 111203 + 6 * k + 6 ≤ 7293034; omega⟩) hS (fun q _ h => hFc q h) hFc (fun r9 u9 t H1 locs ht hvm hw9 hB hz1 hk1 hS => ?_)
    subst hw9
    have hB1 : va_P (dC, dI) clB ((o, .inl (ka 5, 1, .inr (.inl g))) :: Wd') H1 := by rw [← ht]; exact hB
    obtain ⟨hP, hD⟩ := tk_joinW (ws := Md) (wc := ((o, .inl (ka 5, 1, .inr (.inl g))) :: Wd)) hP1 hD1 hk1 hFc hB1 (by rw [List.map_cons, List.map_cons, hmW])
    exact K2 g H1 locs (fun z => absurd z (by decide)) hP hD hS
  · have hP1 := hP
    have hD1 := hD
    have hFc := tk_freeG (ws := Md) (wc := ((o, .inl (ka 5, 1, .inr (.inl g))) :: Wd)) hD1 hS hA
    refine va_calli (vx_runSW (As := [.ref h, .int (xs (5 * k + 1)), .ref o]) (rest := []) ⟨hx, hb, hml, hown, hts2⟩ (c_L_remake_ISE l dC dI ka sa _ h o (xs (5 * k + 1)) g Wd Wd' fs hW0 hmW hO) (vx_cwSW 3 hts2 (tw_A wi_413 wi_414 wi_23 wi_415) rfl rfl rfl (by decide +kernel) ⟨Nat.le_of_ble_eq_true rfl, Nat.le_of_ble_eq_true rfl⟩) ⟨fun a U g mk q => ⟨q.1, q.2.1, tk_E.call q.2.2.1, tk_X.call q.2.2.2.1, tk_Z.call q.2.2.2.2.1, tk_N.call q.2.2.2.2.2.1, q.2.2.2.2.2.2⟩, fun U hU hW => ⟨rfl, by rw [hU], tk_E.warm hW hE, tk_X.warm hW hXx, tk_Z.at hZz hS hU hW hFc, tk_N.moved hW.alike hNn, by rw [hU]; exact tk_lastP (ws := Md) hP1, (tk_lastD (ws := Md) hD1).weaken (fun _ _ _ _ => trivial)⟩⟩ rfl rfl hl.1 rfl (lv_room (Nat.le_of_ble_eq_true rfl)) dL_law_168 ⟨by show 47 + k + 1 ≤ 601024; omega, by show 111203 + 6 * k + 6 ≤ 7293034; omega⟩) hS (fun q _ h => hFc q h) hFc (fun r9 u9 t H1 locs ht hvm hw9 hB hz1 hk1 hS => ?_)
    subst hw9
    have hB1 : va_P (dC, dI) clB ((o, .inl (ka 5, 1, .inr (.inl g))) :: Wd') H1 := by rw [← ht]; exact hB
    obtain ⟨hP, hD⟩ := tk_joinW (ws := Md) (wc := ((o, .inl (ka 5, 1, .inr (.inl g))) :: Wd)) hP1 hD1 hk1 hFc hB1 (by rw [List.map_cons, List.map_cons, hmW])
    exact K2 g H1 locs (fun z => absurd z (by decide)) hP hD hS
  · have hP1 := hP
    have hD1 := hD
    have hFc := tk_freeG (ws := Md) (wc := ((o, .inl (ka 5, 1, .inr (.inl g))) :: Wd)) hD1 hS hA
    refine va_calli (vx_runSW (As := [.ref h, .int (xs (5 * k + 1)), .ref o]) (rest := []) ⟨hx, hb, hml, hown, hts2⟩ (c_L_remake_UOE l dC dI ka sa _ h o (xs (5 * k + 1)) g Wd Wd' fs hW0 hmW hO) (vx_cwSW 3 hts2 (tw_A wi_413 wi_414 wi_23 wi_415) rfl rfl rfl (by decide +kernel) ⟨Nat.le_of_ble_eq_true rfl, Nat.le_of_ble_eq_true rfl⟩) ⟨fun a U g mk q => ⟨q.1, q.2.1, tk_E.call q.2.2.1, tk_X.call q.2.2.2.1, tk_Z.call q.2.2.2.2.1, tk_N.call q.2.2.2.2.2.1, q.2.2.2.2.2.2⟩, fun U hU hW => ⟨rfl, by rw [hU], tk_E.warm hW hE, tk_X.warm hW hXx, tk_Z.at hZz hS hU hW hFc, tk_N.moved hW.alike hNn, by rw [hU]; exact tk_lastP (ws := Md) hP1, (tk_lastD (ws := Md) hD1).weaken (fun _ _ _ _ => trivial)⟩⟩ rfl rfl hl.1 rfl (lv_room (Nat.le_of_ble_eq_true rfl)) dL_law_168 ⟨by show 47 + k + 1 ≤ 601024; omega, by show 111203 + 6 * k + 6 ≤ 7293034; omega⟩) hS (fun q _ h => hFc q h) hFc (fun r9 u9 t H1 locs ht hvm hw9 hB hz1 hk1 hS => ?_)
    subst hw9
    have hB1 : va_P (dC, dI) clB ((o, .inl (ka 5, 1, .inr (.inl g))) :: Wd') H1 := by rw [← ht]; exact hB
    obtain ⟨hP, hD⟩ := tk_joinW (ws := Md) (wc := ((o, .inl (ka 5, 1, .inr (.inl g))) :: Wd)) hP1 hD1 hk1 hFc hB1 (by rw [List.map_cons, List.map_cons, hmW])
    exact K2 g H1 locs (fun z => absurd z (by decide)) hP hD hS

set_option maxHeartbeats 4000000 in
set_option maxRecDepth 100000 in
theorem lc_clean {p : Program} {l : Launch} {e : Env} {s : State} {m : MethodId} {below : List Frame} {meth : Method} {c : Code} {dC : Nat → ClassId} {dI : Nat → Nat → Nat} {ka : Nat → ClassId} {sa : Nat → Nat} {b L : Nat} {xs : Nat → Int32} (hL : L ≤ 2560) (C0 : lw_At p s m meth c b L xs) (hst : l.stackTraces = false) (hE : tk_E dC dI ka s) (hXx : tk_X sa s) (hZz : tk_Z (fun q : Nat => s.heap.size ≤ q) s s.heap) (hNn : tk_N s) {h dr db lg fa : Nat} {fr fb : Nat → Nat} {h2 : Nat} {ad : Nat → Nat} {o : Nat} {k w : Nat} {mth : Int32} {g : Nat → Int64} {Wd Md : va_W} {H : Heap} {locs : List Loc} {ls : Array Slot} (hk : 5 * k + 5 ≤ L) (hw : w ≤ 12 * k) (hR : RW h dr db lg fa fr fb ka h2 ad mth k w Wd Md) (hP : va_P (dC, dI) clB (Md ++ (o, .inl (ka 5, 1, .inr (.inl g))) :: Wd) H) (hD : va_D (fun q : Nat => s.heap.size ≤ q) (Md ++ (o, .inl (ka 5, 1, .inr (.inl g))) :: Wd)) (hS : va_S (fun q : Nat => s.heap.size ≤ q) s.heap H locs) (hl : lv_has ls 7 [(0, .ref b), (1, .ref h), (2, .ref h2), (3, .ref o), (4, .int (nI (5 * k)))]) (K : ∀ (mth' : Int32) (w' : Nat) (g' : Nat → Int64) (Wd' Md' : va_W) (H : Heap) (locs : List Loc) (ls : Array Slot), w' ≤ 12 * (k + 1) → RW h dr db lg fa fr fb ka h2 ad mth' (k + 1) w' Wd' Md' → va_P (dC, dI) clB (Md' ++ (o, .inl (ka 5, 1, .inr (.inl g'))) :: Wd') H → va_D (fun q : Nat => s.heap.size ≤ q) (Md' ++ (o, .inl (ka 5, 1, .inr (.inl g'))) :: Wd') → va_S (fun q : Nat => s.heap.size ≤ q) s.heap H locs → lv_has ls 7 [(0, .ref b), (1, .ref h), (2, .ref h2), (3, .ref o), (4, .int (nI (5 * k)))] → W p l e room_1 s m #[Value.ref b] below meth c H locs (47 + (k + 1)) (111203 + 6 * (k + 1)) (lw_Z below #[Value.ref b] s) (F0 m 624 ls [])) : W p l e room_1 s m #[Value.ref b] below meth c H locs (47 + k) (111203 + 6 * k) (lw_Z below #[Value.ref b] s) (F0 m 339 ls []) := by
  obtain ⟨hx, hb, hr, hml, hown, hts, hX, hbl, hlocks, hgv⟩ := C0
  have hA : ∀ q : Nat, s.heap.size ≤ q → (fun q : Nat => s.heap.size ≤ q) q := fun _ h => h
  have hbA : ¬ (fun q : Nat => s.heap.size ≤ q) b := Nat.not_le.mpr hbl
  have hown : s.vm.findClass RL = some m.cls := hown
  have hK := hE.1
  have hts2 : ∀ w ∈ kL_pin :: lwg, w.before #[Value.ref b] s = true := fun w hw => by
    rcases List.mem_cons.mp hw with e | e
    · rw [e]; exact hts _ (lwg_in wi_214)
    · exact hts _ (lwg_in e)
  obtain ⟨fs, hW0⟩ := RW_W0 hR
  obtain ⟨fs2, hM0⟩ := RW_M0 hR
  obtain ⟨Wd', Md', k9, b9, hR', ⟨frM, loM, hfM, hlM, hMc⟩, hdis⟩ := S_clean l dC dI ka h dr db lg fa fr fb h2 ad mth k w Wd Md hst hR (by omega) (by omega) (xs (5 * k + 1))
  have hmW := (RW_mapW hR).trans (RW_mapW hR').symm
  obtain ⟨frT, loT, hfT, hlT, hTc⟩ := RW_thrown l dC dI hR'
  obtain ⟨fs3, hM3⟩ := RW_M0 hR'
  refine lv_aload_n hx hb dL_law_339 rfl (lv_at hl 1 rfl) ?_
  refine lv_aload_n hx hb dL_law_340 rfl (lv_at hl 0 rfl) ?_
  refine lv_iload hx hb dL_law_341 (lv_at hl 4 rfl) ?_
  refine lv_iconst (v := 1) hx hb dL_law_343 (by decide) ?_
  refine lv_iadd hx hb dL_law_344 ?_
  refine lw_ld (i := 5 * k) (j := 1) hx hb hX hbl hbA hS rfl (by omega) (by omega) dL_law_345 ?_
  refine lv_aload_n hx hb dL_law_346 rfl (lv_at hl 3 rfl) ?_
  have K2 : ∀ (g' : Nat → Int64) (H : Heap) (locs : List Loc), (k9 = 0 → g' 0 = b9.toInt64) → va_P (dC, dI) clB (Md ++ (o, .inl (ka 5, 1, .inr (.inl g'))) :: Wd') H → va_D (fun q : Nat => s.heap.size ≤ q) (Md ++ (o, .inl (ka 5, 1, .inr (.inl g'))) :: Wd') → va_S (fun q : Nat => s.heap.size ≤ q) s.heap H locs → W p l e room_1 s m #[Value.ref b] below meth c H locs (47 + k + 1) (111203 + 6 * k + 6) (lw_Z below #[Value.ref b] s) (F0 m 350 ls [.int k9]) := by
    clear hP hD hS
    intro g' H locs hg0 hP hD hS
    refine lv_istore (lv' := [(5, .int k9), (0, .ref b), (1, .ref h), (2, .ref h2), (3, .ref o), (4, .int (nI (5 * k)))]) hx hb dL_law_350 hl (by decide) rfl (fun ls hl => ?_)
    refine lv_aload_n hx hb dL_law_352 rfl (lv_at hl 3 rfl) ?_
    refine lv_aload_n hx hb dL_law_353 rfl (lv_at hl 1 rfl) ?_
    refine lv_iload hx hb dL_law_354 (lv_at hl 5 rfl) ?_
    refine lv_iconst (v := 1) hx hb dL_law_356 (by decide) ?_
    refine lv_iadd hx hb dL_law_357 ?_
    refine lw_ld (i := 5 * k) (j := 1) hx hb hX hbl hbA hS rfl (by omega) (by omega) dL_law_358 ?_
    have hP2 := tk_commP hP
    have hD2 := tk_commD hD
    have hFc := tk_freeG (ws := (o, .inl (ka 5, 1, .inr (.inl g'))) :: Wd') (wc := Md) hD2 hS hA
    refine va_calli (va_runV (As := [.int (xs (5 * k + 1))]) (rest := []) ⟨hx, hb, hml, hown, hts2⟩ (hMc _) (cwV 1 hts2 (tw_V wi_629 wi_630 wi_631 wi_28 wi_632) rfl rfl rfl (by decide +kernel) ⟨by show frM + 1 ≤ 12; omega, by show 8 + (6 + 11) + loM ≤ 428; omega⟩) ⟨fun a U g mk q => ⟨q.1, q.2.1, tk_E.call q.2.2.1, q.2.2.2⟩, va_recv hK hP (ci := 4) (q0 := 0) rfl (app_0 hM0), fun U hU hW => ⟨rfl, by rw [hU], tk_E.warm hW hE, by rw [hU]; exact tk_lastP (ws := (o, .inl (ka 5, 1, .inr (.inl g'))) :: Wd') hP2, (tk_lastD (ws := (o, .inl (ka 5, 1, .inr (.inl g'))) :: Wd') hD2).weaken (fun _ _ _ _ => trivial)⟩⟩ rfl rfl hl.1 rfl (lv_room (Nat.le_of_ble_eq_true rfl)) dL_law_359 ⟨by show 47 + k + 1 + 0 ≤ 601024; omega, by show 111203 + 6 * k + 6 + 0 ≤ 7293034; omega⟩) hS (fun q _ h => hFc q h) hFc (fun r9 u9 t H1 locs ht hvm hw9 hB hz1 hk1 hS => ?_)
    subst hw9
    have hB1 : va_P (dC, dI) clB Md' H1 := by rw [← ht]; exact hB
    obtain ⟨hP, hD⟩ := tk_joinW (ws := (o, .inl (ka 5, 1, .inr (.inl g'))) :: Wd') (wc := Md) hP2 hD2 hk1 hFc hB1 ((RW_mapM hR).trans (RW_mapM hR').symm)
    have hP := tk_commP hP
    have hD := tk_commD hD
    generalize H1 = H at hP hS ⊢
    refine lv_istore (lv' := [(6, .int r9), (5, .int k9), (0, .ref b), (1, .ref h), (2, .ref h2), (3, .ref o), (4, .int (nI (5 * k)))]) hx hb dL_law_362 hl (by decide) rfl (fun ls hl => ?_)
    refine lv_aload_n hx hb dL_law_364 rfl (lv_at hl 4 rfl) ?_
    refine vp_callSi (va_Run.run (va_runV (As := []) (rest := []) ⟨hx, hb, hml, hown, hts2⟩ hTc (cwV 0 hts2 (tw_V wi_542 wi_543 wi_544 wi_28 wi_545) rfl rfl rfl (by decide +kernel) ⟨by show frT + 1 ≤ 12; omega, by show 8 + (1 + 11) + loT ≤ 428; omega⟩) ⟨fun a U g mk q => ⟨q.1, tk_E.call q.2.1, q.2.2⟩, va_recv hK hP (ci := 4) (q0 := 0) rfl (app_0 hM3), fun U hU hW => ⟨rfl, tk_E.warm hW hE, by rw [hU]; exact tk_lastP (ws := (o, .inl (ka 5, 1, .inr (.inl g'))) :: Wd') (tk_commP hP)⟩⟩ rfl rfl hl.1 rfl (lv_room (Nat.le_of_ble_eq_true rfl)) dL_law_365 ⟨by show 47 + k + 1 + 0 ≤ 601024; omega, by show 111203 + 6 * k + 6 + 0 ≤ 7293034; omega⟩)) (fun r8 er8 => ?_)
    subst er8
    refine lv_iload hx hb dL_law_368 (lv_at hl 1 rfl) ?_
    refine lv_icmp_eq (tgt := 375) hx hb dL_law_370 (by decide) (fun c_1 => ?_) (fun c_1 => absurd rfl c_1)
    refine lv_iload hx hb dL_law_375 (lv_at hl 1 rfl) ?_
    refine lv_if_ne (tgt := 392) hx hb dL_law_377 (by decide) (fun c_2 => ?_) (fun c_2 => ?_)
    · refine lv_goto (tgt := 624) hx hb dL_law_392 (by decide) ?_
      exact K _ (w + 12) _ _ _ _ _ _ (by omega) hR' hP hD hS (lv_sub hl [2, 3, 4, 5, 6] rfl)
    · refine lv_aload_n hx hb dL_law_380 rfl (lv_at hl 5 rfl) ?_
      refine lv_iconst (v := 0) hx hb dL_law_381 (by decide) ?_
      refine va_lald hx hb hK hP Md'.length 5 app_at rfl (vp_in_nI (n := 0) (N := 1) (by decide) (by decide)) dL_law_382 ?_
      refine lv_iload hx hb dL_law_383 (lv_at hl 0 rfl) ?_
      refine lv_i2l hx hb dL_law_385 rfl ?_
      have eg : g' (nI 0).toNatClampNeg = r9.toInt64 := hg0 c_2
      rw [show g' (0 : Int32).toNatClampNeg = r9.toInt64 from eg]
      refine tk_lcmpE hx hb dL_law_386 ?_
      refine lv_if_eq (tgt := 392) hx hb dL_law_387 (by decide) (fun c_3 => ?_) (fun c_3 => absurd rfl c_3)
      refine lv_goto (tgt := 624) hx hb dL_law_392 (by decide) ?_
      exact K _ (w + 12) _ _ _ _ _ _ (by omega) hR' hP hD hS (lv_sub hl [2, 3, 4, 5, 6] rfl)
  rcases hdis with ⟨rfl, hO⟩ | ⟨rfl, hO⟩ | ⟨rfl, hO⟩
  · have hP1 := hP
    have hD1 := hD
    have hFc := tk_freeG (ws := Md) (wc := ((o, .inl (ka 5, 1, .inr (.inl g))) :: Wd)) hD1 hS hA
    refine va_calli (vx_runSW (As := [.ref h, .int (xs (5 * k + 1)), .ref o]) (rest := []) ⟨hx, hb, hml, hown, hts2⟩ (c_L_clean_ok l dC dI ka _ h o (xs (5 * k + 1)) b9 g Wd Wd' fs hW0 hmW hO) (vx_cwSW 3 hts2 (tw_A wi_429 wi_430 wi_23 wi_431) rfl rfl rfl (by decide +kernel) ⟨Nat.le_of_ble_eq_true rfl, Nat.le_of_ble_eq_true rfl⟩) ⟨fun a U g mk q => ⟨q.1, q.2.1, tk_E.call q.2.2.1, q.2.2.2⟩, fun U hU hW => ⟨rfl, by rw [hU], tk_E.warm hW hE, by rw [hU]; exact tk_lastP (ws := Md) hP1, (tk_lastD (ws := Md) hD1).weaken (fun _ _ _ _ => trivial)⟩⟩ rfl rfl hl.1 rfl (lv_room (Nat.le_of_ble_eq_true rfl)) dL_law_347 ⟨by show 47 + k + 0 ≤ 601024; omega, by show 111203 + 6 * k + 0 ≤ 7293034; omega⟩) hS (fun q _ h => hFc q h) hFc (fun r9 u9 t H1 locs ht hvm hw9 hB hz1 hk1 hS => ?_)
    subst hw9
    have hB1 : va_P (dC, dI) clB ((o, .inl (ka 5, 1, .inr (.inl (vp_updL g 0 b9.toInt64)))) :: Wd') H1 := by rw [← ht]; exact hB
    obtain ⟨hP, hD⟩ := tk_joinW (ws := Md) (wc := ((o, .inl (ka 5, 1, .inr (.inl g))) :: Wd)) hP1 hD1 hk1 hFc hB1 (by rw [List.map_cons, List.map_cons, hmW])
    refine W.widen (k := 47 + k + 1) (n := 111203 + 6 * k + 6) (by omega) (by omega) ?_
    exact K2 (vp_updL g 0 b9.toInt64) H1 locs (fun _ => pk_uLs) hP hD hS
  · have hP1 := hP
    have hD1 := hD
    have hFc := tk_freeG (ws := Md) (wc := ((o, .inl (ka 5, 1, .inr (.inl g))) :: Wd)) hD1 hS hA
    refine va_calli (vx_runSW (As := [.ref h, .int (xs (5 * k + 1)), .ref o]) (rest := []) ⟨hx, hb, hml, hown, hts2⟩ (c_L_clean_IAE l dC dI ka sa _ h o (xs (5 * k + 1)) g Wd Wd' fs hW0 hmW hO) (vx_cwSW 3 hts2 (tw_A wi_429 wi_430 wi_23 wi_431) rfl rfl rfl (by decide +kernel) ⟨Nat.le_of_ble_eq_true rfl, Nat.le_of_ble_eq_true rfl⟩) ⟨fun a U g mk q => ⟨q.1, q.2.1, tk_E.call q.2.2.1, tk_X.call q.2.2.2.1, tk_Z.call q.2.2.2.2.1, tk_N.call q.2.2.2.2.2.1, q.2.2.2.2.2.2⟩, fun U hU hW => ⟨rfl, by rw [hU], tk_E.warm hW hE, tk_X.warm hW hXx, tk_Z.at hZz hS hU hW hFc, tk_N.moved hW.alike hNn, by rw [hU]; exact tk_lastP (ws := Md) hP1, (tk_lastD (ws := Md) hD1).weaken (fun _ _ _ _ => trivial)⟩⟩ rfl rfl hl.1 rfl (lv_room (Nat.le_of_ble_eq_true rfl)) dL_law_347 ⟨by show 47 + k + 1 ≤ 601024; omega, by show 111203 + 6 * k + 6 ≤ 7293034; omega⟩) hS (fun q _ h => hFc q h) hFc (fun r9 u9 t H1 locs ht hvm hw9 hB hz1 hk1 hS => ?_)
    subst hw9
    have hB1 : va_P (dC, dI) clB ((o, .inl (ka 5, 1, .inr (.inl g))) :: Wd') H1 := by rw [← ht]; exact hB
    obtain ⟨hP, hD⟩ := tk_joinW (ws := Md) (wc := ((o, .inl (ka 5, 1, .inr (.inl g))) :: Wd)) hP1 hD1 hk1 hFc hB1 (by rw [List.map_cons, List.map_cons, hmW])
    exact K2 g H1 locs (fun z => absurd z (by decide)) hP hD hS
  · have hP1 := hP
    have hD1 := hD
    have hFc := tk_freeG (ws := Md) (wc := ((o, .inl (ka 5, 1, .inr (.inl g))) :: Wd)) hD1 hS hA
    refine va_calli (vx_runSW (As := [.ref h, .int (xs (5 * k + 1)), .ref o]) (rest := []) ⟨hx, hb, hml, hown, hts2⟩ (c_L_clean_UOE l dC dI ka sa _ h o (xs (5 * k + 1)) g Wd Wd' fs hW0 hmW hO) (vx_cwSW 3 hts2 (tw_A wi_429 wi_430 wi_23 wi_431) rfl rfl rfl (by decide +kernel) ⟨Nat.le_of_ble_eq_true rfl, Nat.le_of_ble_eq_true rfl⟩) ⟨fun a U g mk q => ⟨q.1, q.2.1, tk_E.call q.2.2.1, tk_X.call q.2.2.2.1, tk_Z.call q.2.2.2.2.1, tk_N.call q.2.2.2.2.2.1, q.2.2.2.2.2.2⟩, fun U hU hW => ⟨rfl, by rw [hU], tk_E.warm hW hE, tk_X.warm hW hXx, tk_Z.at hZz hS hU hW hFc, tk_N.moved hW.alike hNn, by rw [hU]; exact tk_lastP (ws := Md) hP1, (tk_lastD (ws := Md) hD1).weaken (fun _ _ _ _ => trivial)⟩⟩ rfl rfl hl.1 rfl (lv_room (Nat.le_of_ble_eq_true rfl)) dL_law_347 ⟨by show 47 + k + 1 ≤ 601024; omega, by show 111203 + 6 * k + 6 ≤ 7293034; omega⟩) hS (fun q _ h => hFc q h) hFc (fun r9 u9 t H1 locs ht hvm hw9 hB hz1 hk1 hS => ?_)
    subst hw9
    have hB1 : va_P (dC, dI) clB ((o, .inl (ka 5, 1, .inr (.inl g))) :: Wd') H1 := by rw [← ht]; exact hB
    obtain ⟨hP, hD⟩ := tk_joinW (ws := Md) (wc := ((o, .inl (ka 5, 1, .inr (.inl g))) :: Wd)) hP1 hD1 hk1 hFc hB1 (by rw [List.map_cons, List.map_cons, hmW])
    exact K2 g H1 locs (fun z => absurd z (by decide)) hP hD hS

set_option maxHeartbeats 4000000 in
set_option maxRecDepth 100000 in
theorem lc_sweep {p : Program} {l : Launch} {e : Env} {s : State} {m : MethodId} {below : List Frame} {meth : Method} {c : Code} {dC : Nat → ClassId} {dI : Nat → Nat → Nat} {ka : Nat → ClassId} {sa : Nat → Nat} {b L : Nat} {xs : Nat → Int32} (hL : L ≤ 2560) (C0 : lw_At p s m meth c b L xs) (hst : l.stackTraces = false) (hE : tk_E dC dI ka s) (hXx : tk_X sa s) (hZz : tk_Z (fun q : Nat => s.heap.size ≤ q) s s.heap) (hNn : tk_N s) {h dr db lg fa : Nat} {fr fb : Nat → Nat} {h2 : Nat} {ad : Nat → Nat} {o : Nat} {k w : Nat} {mth : Int32} {g : Nat → Int64} {Wd Md : va_W} {H : Heap} {locs : List Loc} {ls : Array Slot} (hk : 5 * k + 5 ≤ L) (hw : w ≤ 12 * k) (hR : RW h dr db lg fa fr fb ka h2 ad mth k w Wd Md) (hP : va_P (dC, dI) clB (Md ++ (o, .inl (ka 5, 1, .inr (.inl g))) :: Wd) H) (hD : va_D (fun q : Nat => s.heap.size ≤ q) (Md ++ (o, .inl (ka 5, 1, .inr (.inl g))) :: Wd)) (hS : va_S (fun q : Nat => s.heap.size ≤ q) s.heap H locs) (hl : lv_has ls 7 [(0, .ref b), (1, .ref h), (2, .ref h2), (3, .ref o), (4, .int (nI (5 * k)))]) (K : ∀ (mth' : Int32) (w' : Nat) (g' : Nat → Int64) (Wd' Md' : va_W) (H : Heap) (locs : List Loc) (ls : Array Slot), w' ≤ 12 * (k + 1) → RW h dr db lg fa fr fb ka h2 ad mth' (k + 1) w' Wd' Md' → va_P (dC, dI) clB (Md' ++ (o, .inl (ka 5, 1, .inr (.inl g'))) :: Wd') H → va_D (fun q : Nat => s.heap.size ≤ q) (Md' ++ (o, .inl (ka 5, 1, .inr (.inl g'))) :: Wd') → va_S (fun q : Nat => s.heap.size ≤ q) s.heap H locs → lv_has ls 7 [(0, .ref b), (1, .ref h), (2, .ref h2), (3, .ref o), (4, .int (nI (5 * k)))] → W p l e room_1 s m #[Value.ref b] below meth c H locs (47 + (k + 1)) (111203 + 6 * (k + 1)) (lw_Z below #[Value.ref b] s) (F0 m 624 ls [])) : W p l e room_1 s m #[Value.ref b] below meth c H locs (47 + k) (111203 + 6 * k) (lw_Z below #[Value.ref b] s) (F0 m 395 ls []) := by
  obtain ⟨hx, hb, hr, hml, hown, hts, hX, hbl, hlocks, hgv⟩ := C0
  have hA : ∀ q : Nat, s.heap.size ≤ q → (fun q : Nat => s.heap.size ≤ q) q := fun _ h => h
  have hbA : ¬ (fun q : Nat => s.heap.size ≤ q) b := Nat.not_le.mpr hbl
  have hown : s.vm.findClass RL = some m.cls := hown
  have hK := hE.1
  have hts2 : ∀ w ∈ kL_pin :: lwg, w.before #[Value.ref b] s = true := fun w hw => by
    rcases List.mem_cons.mp hw with e | e
    · rw [e]; exact hts _ (lwg_in wi_214)
    · exact hts _ (lwg_in e)
  obtain ⟨fs, hW0⟩ := RW_W0 hR
  obtain ⟨fs2, hM0⟩ := RW_M0 hR
  obtain ⟨Wd', Md', k9, b9, hR', ⟨frM, loM, hfM, hlM, hMc⟩, hdis⟩ := S_sweep l dC dI ka h dr db lg fa fr fb h2 ad mth k w Wd Md hst hR (by omega) (by omega) 
  have hmW := (RW_mapW hR).trans (RW_mapW hR').symm
  obtain ⟨frT, loT, hfT, hlT, hTc⟩ := RW_thrown l dC dI hR'
  obtain ⟨fs3, hM3⟩ := RW_M0 hR'
  refine lv_aload_n hx hb dL_law_395 rfl (lv_at hl 1 rfl) ?_
  refine lv_aload_n hx hb dL_law_396 rfl (lv_at hl 3 rfl) ?_
  have K2 : ∀ (g' : Nat → Int64) (H : Heap) (locs : List Loc), (k9 = 0 → g' 0 = b9.toInt64) → va_P (dC, dI) clB (Md ++ (o, .inl (ka 5, 1, .inr (.inl g'))) :: Wd') H → va_D (fun q : Nat => s.heap.size ≤ q) (Md ++ (o, .inl (ka 5, 1, .inr (.inl g'))) :: Wd') → va_S (fun q : Nat => s.heap.size ≤ q) s.heap H locs → W p l e room_1 s m #[Value.ref b] below meth c H locs (47 + k + 1) (111203 + 6 * k + 6) (lw_Z below #[Value.ref b] s) (F0 m 400 ls [.int k9]) := by
    clear hP hD hS
    intro g' H locs hg0 hP hD hS
    refine lv_istore (lv' := [(5, .int k9), (0, .ref b), (1, .ref h), (2, .ref h2), (3, .ref o), (4, .int (nI (5 * k)))]) hx hb dL_law_400 hl (by decide) rfl (fun ls hl => ?_)
    refine lv_aload_n hx hb dL_law_402 rfl (lv_at hl 3 rfl) ?_
    have hP2 := tk_commP hP
    have hD2 := tk_commD hD
    have hFc := tk_freeG (ws := (o, .inl (ka 5, 1, .inr (.inl g'))) :: Wd') (wc := Md) hD2 hS hA
    refine va_calli (va_runV (As := []) (rest := []) ⟨hx, hb, hml, hown, hts2⟩ (hMc _) (cwV 0 hts2 (tw_V wi_633 wi_634 wi_635 wi_28 wi_636) rfl rfl rfl (by decide +kernel) ⟨by show frM + 1 ≤ 12; omega, by show 8 + (4 + 11) + loM ≤ 428; omega⟩) ⟨fun a U g mk q => ⟨q.1, q.2.1, tk_E.call q.2.2.1, q.2.2.2⟩, va_recv hK hP (ci := 4) (q0 := 0) rfl (app_0 hM0), fun U hU hW => ⟨rfl, by rw [hU], tk_E.warm hW hE, by rw [hU]; exact tk_lastP (ws := (o, .inl (ka 5, 1, .inr (.inl g'))) :: Wd') hP2, (tk_lastD (ws := (o, .inl (ka 5, 1, .inr (.inl g'))) :: Wd') hD2).weaken (fun _ _ _ _ => trivial)⟩⟩ rfl rfl hl.1 rfl (lv_room (Nat.le_of_ble_eq_true rfl)) dL_law_403 ⟨by show 47 + k + 1 + 0 ≤ 601024; omega, by show 111203 + 6 * k + 6 + 0 ≤ 7293034; omega⟩) hS (fun q _ h => hFc q h) hFc (fun r9 u9 t H1 locs ht hvm hw9 hB hz1 hk1 hS => ?_)
    subst hw9
    have hB1 : va_P (dC, dI) clB Md' H1 := by rw [← ht]; exact hB
    obtain ⟨hP, hD⟩ := tk_joinW (ws := (o, .inl (ka 5, 1, .inr (.inl g'))) :: Wd') (wc := Md) hP2 hD2 hk1 hFc hB1 ((RW_mapM hR).trans (RW_mapM hR').symm)
    have hP := tk_commP hP
    have hD := tk_commD hD
    generalize H1 = H at hP hS ⊢
    refine lv_istore (lv' := [(6, .int r9), (5, .int k9), (0, .ref b), (1, .ref h), (2, .ref h2), (3, .ref o), (4, .int (nI (5 * k)))]) hx hb dL_law_406 hl (by decide) rfl (fun ls hl => ?_)
    refine lv_aload_n hx hb dL_law_408 rfl (lv_at hl 4 rfl) ?_
    refine vp_callSi (va_Run.run (va_runV (As := []) (rest := []) ⟨hx, hb, hml, hown, hts2⟩ hTc (cwV 0 hts2 (tw_V wi_542 wi_543 wi_544 wi_28 wi_545) rfl rfl rfl (by decide +kernel) ⟨by show frT + 1 ≤ 12; omega, by show 8 + (1 + 11) + loT ≤ 428; omega⟩) ⟨fun a U g mk q => ⟨q.1, tk_E.call q.2.1, q.2.2⟩, va_recv hK hP (ci := 4) (q0 := 0) rfl (app_0 hM3), fun U hU hW => ⟨rfl, tk_E.warm hW hE, by rw [hU]; exact tk_lastP (ws := (o, .inl (ka 5, 1, .inr (.inl g'))) :: Wd') (tk_commP hP)⟩⟩ rfl rfl hl.1 rfl (lv_room (Nat.le_of_ble_eq_true rfl)) dL_law_409 ⟨by show 47 + k + 1 + 0 ≤ 601024; omega, by show 111203 + 6 * k + 6 + 0 ≤ 7293034; omega⟩)) (fun r8 er8 => ?_)
    subst er8
    refine lv_iload hx hb dL_law_412 (lv_at hl 1 rfl) ?_
    refine lv_icmp_eq (tgt := 419) hx hb dL_law_414 (by decide) (fun c_1 => ?_) (fun c_1 => absurd rfl c_1)
    refine lv_iload hx hb dL_law_419 (lv_at hl 1 rfl) ?_
    refine lv_if_ne (tgt := 436) hx hb dL_law_421 (by decide) (fun c_2 => ?_) (fun c_2 => ?_)
    · refine lv_goto (tgt := 624) hx hb dL_law_436 (by decide) ?_
      exact K _ (w + 12) _ _ _ _ _ _ (by omega) hR' hP hD hS (lv_sub hl [2, 3, 4, 5, 6] rfl)
    · refine lv_aload_n hx hb dL_law_424 rfl (lv_at hl 5 rfl) ?_
      refine lv_iconst (v := 0) hx hb dL_law_425 (by decide) ?_
      refine va_lald hx hb hK hP Md'.length 5 app_at rfl (vp_in_nI (n := 0) (N := 1) (by decide) (by decide)) dL_law_426 ?_
      refine lv_iload hx hb dL_law_427 (lv_at hl 0 rfl) ?_
      refine lv_i2l hx hb dL_law_429 rfl ?_
      have eg : g' (nI 0).toNatClampNeg = r9.toInt64 := hg0 c_2
      rw [show g' (0 : Int32).toNatClampNeg = r9.toInt64 from eg]
      refine tk_lcmpE hx hb dL_law_430 ?_
      refine lv_if_eq (tgt := 436) hx hb dL_law_431 (by decide) (fun c_3 => ?_) (fun c_3 => absurd rfl c_3)
      refine lv_goto (tgt := 624) hx hb dL_law_436 (by decide) ?_
      exact K _ (w + 12) _ _ _ _ _ _ (by omega) hR' hP hD hS (lv_sub hl [2, 3, 4, 5, 6] rfl)
  rcases hdis with ⟨rfl, hO⟩ | ⟨rfl, hO⟩
  · have hP1 := hP
    have hD1 := hD
    have hFc := tk_freeG (ws := Md) (wc := ((o, .inl (ka 5, 1, .inr (.inl g))) :: Wd)) hD1 hS hA
    refine va_calli (vx_runSW (As := [.ref h, .ref o]) (rest := []) ⟨hx, hb, hml, hown, hts2⟩ (c_L_sweep_ok l dC dI ka _ h o  b9 g Wd Wd' fs hW0 hmW hO) (vx_cwSW 2 hts2 (tw_A wi_437 wi_438 wi_23 wi_439) rfl rfl rfl (by decide +kernel) ⟨Nat.le_of_ble_eq_true rfl, Nat.le_of_ble_eq_true rfl⟩) ⟨fun a U g mk q => ⟨q.1, q.2.1, tk_E.call q.2.2.1, q.2.2.2⟩, fun U hU hW => ⟨rfl, by rw [hU], tk_E.warm hW hE, by rw [hU]; exact tk_lastP (ws := Md) hP1, (tk_lastD (ws := Md) hD1).weaken (fun _ _ _ _ => trivial)⟩⟩ rfl rfl hl.1 rfl (lv_room (Nat.le_of_ble_eq_true rfl)) dL_law_397 ⟨by show 47 + k + 0 ≤ 601024; omega, by show 111203 + 6 * k + 0 ≤ 7293034; omega⟩) hS (fun q _ h => hFc q h) hFc (fun r9 u9 t H1 locs ht hvm hw9 hB hz1 hk1 hS => ?_)
    subst hw9
    have hB1 : va_P (dC, dI) clB ((o, .inl (ka 5, 1, .inr (.inl (vp_updL g 0 b9.toInt64)))) :: Wd') H1 := by rw [← ht]; exact hB
    obtain ⟨hP, hD⟩ := tk_joinW (ws := Md) (wc := ((o, .inl (ka 5, 1, .inr (.inl g))) :: Wd)) hP1 hD1 hk1 hFc hB1 (by rw [List.map_cons, List.map_cons, hmW])
    refine W.widen (k := 47 + k + 1) (n := 111203 + 6 * k + 6) (by omega) (by omega) ?_
    exact K2 (vp_updL g 0 b9.toInt64) H1 locs (fun _ => pk_uLs) hP hD hS
  · have hP1 := hP
    have hD1 := hD
    have hFc := tk_freeG (ws := Md) (wc := ((o, .inl (ka 5, 1, .inr (.inl g))) :: Wd)) hD1 hS hA
    refine va_calli (vx_runSW (As := [.ref h, .ref o]) (rest := []) ⟨hx, hb, hml, hown, hts2⟩ (c_L_sweep_UOE l dC dI ka sa _ h o  g Wd Wd' fs hW0 hmW hO) (vx_cwSW 2 hts2 (tw_A wi_437 wi_438 wi_23 wi_439) rfl rfl rfl (by decide +kernel) ⟨Nat.le_of_ble_eq_true rfl, Nat.le_of_ble_eq_true rfl⟩) ⟨fun a U g mk q => ⟨q.1, q.2.1, tk_E.call q.2.2.1, tk_X.call q.2.2.2.1, tk_Z.call q.2.2.2.2.1, tk_N.call q.2.2.2.2.2.1, q.2.2.2.2.2.2⟩, fun U hU hW => ⟨rfl, by rw [hU], tk_E.warm hW hE, tk_X.warm hW hXx, tk_Z.at hZz hS hU hW hFc, tk_N.moved hW.alike hNn, by rw [hU]; exact tk_lastP (ws := Md) hP1, (tk_lastD (ws := Md) hD1).weaken (fun _ _ _ _ => trivial)⟩⟩ rfl rfl hl.1 rfl (lv_room (Nat.le_of_ble_eq_true rfl)) dL_law_397 ⟨by show 47 + k + 1 ≤ 601024; omega, by show 111203 + 6 * k + 6 ≤ 7293034; omega⟩) hS (fun q _ h => hFc q h) hFc (fun r9 u9 t H1 locs ht hvm hw9 hB hz1 hk1 hS => ?_)
    subst hw9
    have hB1 : va_P (dC, dI) clB ((o, .inl (ka 5, 1, .inr (.inl g))) :: Wd') H1 := by rw [← ht]; exact hB
    obtain ⟨hP, hD⟩ := tk_joinW (ws := Md) (wc := ((o, .inl (ka 5, 1, .inr (.inl g))) :: Wd)) hP1 hD1 hk1 hFc hB1 (by rw [List.map_cons, List.map_cons, hmW])
    exact K2 g H1 locs (fun z => absurd z (by decide)) hP hD hS

set_option maxHeartbeats 4000000 in
set_option maxRecDepth 100000 in
theorem lc_charge {p : Program} {l : Launch} {e : Env} {s : State} {m : MethodId} {below : List Frame} {meth : Method} {c : Code} {dC : Nat → ClassId} {dI : Nat → Nat → Nat} {ka : Nat → ClassId} {sa : Nat → Nat} {b L : Nat} {xs : Nat → Int32} (hL : L ≤ 2560) (C0 : lw_At p s m meth c b L xs) (hst : l.stackTraces = false) (hE : tk_E dC dI ka s) (hXx : tk_X sa s) (hZz : tk_Z (fun q : Nat => s.heap.size ≤ q) s s.heap) (hNn : tk_N s) {h dr db lg fa : Nat} {fr fb : Nat → Nat} {h2 : Nat} {ad : Nat → Nat} {o : Nat} {k w : Nat} {mth : Int32} {g : Nat → Int64} {Wd Md : va_W} {H : Heap} {locs : List Loc} {ls : Array Slot} (hk : 5 * k + 5 ≤ L) (hw : w ≤ 12 * k) (hR : RW h dr db lg fa fr fb ka h2 ad mth k w Wd Md) (hP : va_P (dC, dI) clB (Md ++ (o, .inl (ka 5, 1, .inr (.inl g))) :: Wd) H) (hD : va_D (fun q : Nat => s.heap.size ≤ q) (Md ++ (o, .inl (ka 5, 1, .inr (.inl g))) :: Wd)) (hS : va_S (fun q : Nat => s.heap.size ≤ q) s.heap H locs) (hl : lv_has ls 7 [(0, .ref b), (1, .ref h), (2, .ref h2), (3, .ref o), (4, .int (nI (5 * k)))]) (K : ∀ (mth' : Int32) (w' : Nat) (g' : Nat → Int64) (Wd' Md' : va_W) (H : Heap) (locs : List Loc) (ls : Array Slot), w' ≤ 12 * (k + 1) → RW h dr db lg fa fr fb ka h2 ad mth' (k + 1) w' Wd' Md' → va_P (dC, dI) clB (Md' ++ (o, .inl (ka 5, 1, .inr (.inl g'))) :: Wd') H → va_D (fun q : Nat => s.heap.size ≤ q) (Md' ++ (o, .inl (ka 5, 1, .inr (.inl g'))) :: Wd') → va_S (fun q : Nat => s.heap.size ≤ q) s.heap H locs → lv_has ls 7 [(0, .ref b), (1, .ref h), (2, .ref h2), (3, .ref o), (4, .int (nI (5 * k)))] → W p l e room_1 s m #[Value.ref b] below meth c H locs (47 + (k + 1)) (111203 + 6 * (k + 1)) (lw_Z below #[Value.ref b] s) (F0 m 624 ls [])) : W p l e room_1 s m #[Value.ref b] below meth c H locs (47 + k) (111203 + 6 * k) (lw_Z below #[Value.ref b] s) (F0 m 439 ls []) := by
  obtain ⟨hx, hb, hr, hml, hown, hts, hX, hbl, hlocks, hgv⟩ := C0
  have hA : ∀ q : Nat, s.heap.size ≤ q → (fun q : Nat => s.heap.size ≤ q) q := fun _ h => h
  have hbA : ¬ (fun q : Nat => s.heap.size ≤ q) b := Nat.not_le.mpr hbl
  have hown : s.vm.findClass RL = some m.cls := hown
  have hK := hE.1
  have hts2 : ∀ w ∈ kL_pin :: lwg, w.before #[Value.ref b] s = true := fun w hw => by
    rcases List.mem_cons.mp hw with e | e
    · rw [e]; exact hts _ (lwg_in wi_214)
    · exact hts _ (lwg_in e)
  obtain ⟨fs, hW0⟩ := RW_W0 hR
  obtain ⟨fs2, hM0⟩ := RW_M0 hR
  obtain ⟨Wd', Md', k9, hR', ⟨frM, loM, hfM, hlM, hMc⟩, hdis⟩ := S_charge l dC dI ka h dr db lg fa fr fb h2 ad mth k w Wd Md hR (by omega) (by omega) hst (xs (5 * k + 1))
  have hmW := (RW_mapW hR).trans (RW_mapW hR').symm
  obtain ⟨frT, loT, hfT, hlT, hTc⟩ := RW_thrown l dC dI hR'
  obtain ⟨fs3, hM3⟩ := RW_M0 hR'
  refine lv_aload_n hx hb dL_law_439 rfl (lv_at hl 1 rfl) ?_
  refine lv_aload_n hx hb dL_law_440 rfl (lv_at hl 0 rfl) ?_
  refine lv_iload hx hb dL_law_441 (lv_at hl 4 rfl) ?_
  refine lv_iconst (v := 1) hx hb dL_law_443 (by decide) ?_
  refine lv_iadd hx hb dL_law_444 ?_
  refine lw_ld (i := 5 * k) (j := 1) hx hb hX hbl hbA hS rfl (by omega) (by omega) dL_law_445 ?_
  have K2 : ∀ (g9 : Nat → Int64) (H : Heap) (locs : List Loc), va_P (dC, dI) clB (Md ++ (o, .inl (ka 5, 1, .inr (.inl g))) :: Wd') H → va_D (fun q : Nat => s.heap.size ≤ q) (Md ++ (o, .inl (ka 5, 1, .inr (.inl g))) :: Wd') → va_S (fun q : Nat => s.heap.size ≤ q) s.heap H locs → W p l e room_1 s m #[Value.ref b] below meth c H locs (47 + k + 1) (111203 + 6 * k + 6) (lw_Z below #[Value.ref b] s) (F0 m 449 ls [.int k9]) := by
    clear hP hD hS
    intro g9 H locs hP hD hS
    refine lv_istore (lv' := [(5, .int k9), (0, .ref b), (1, .ref h), (2, .ref h2), (3, .ref o), (4, .int (nI (5 * k)))]) hx hb dL_law_449 hl (by decide) rfl (fun ls hl => ?_)
    refine lv_aload_n hx hb dL_law_451 rfl (lv_at hl 3 rfl) ?_
    refine lv_aload_n hx hb dL_law_452 rfl (lv_at hl 1 rfl) ?_
    refine lv_iload hx hb dL_law_453 (lv_at hl 5 rfl) ?_
    refine lv_iconst (v := 1) hx hb dL_law_455 (by decide) ?_
    refine lv_iadd hx hb dL_law_456 ?_
    refine lw_ld (i := 5 * k) (j := 1) hx hb hX hbl hbA hS rfl (by omega) (by omega) dL_law_457 ?_
    have hP2 := tk_commP hP
    have hD2 := tk_commD hD
    have hFc := tk_freeG (ws := (o, .inl (ka 5, 1, .inr (.inl g))) :: Wd') (wc := Md) hD2 hS hA
    refine va_callv (va_runV (As := [.int (xs (5 * k + 1))]) (rest := []) ⟨hx, hb, hml, hown, hts2⟩ (hMc _) (cwV 1 hts2 (tw_V wi_637 wi_638 wi_639 wi_28 wi_640) rfl rfl rfl (by decide +kernel) ⟨by show frM + 1 ≤ 12; omega, by show 8 + (2 + 11) + loM ≤ 428; omega⟩) ⟨fun a U g mk q => ⟨q.1, q.2.1, tk_E.call q.2.2.1, q.2.2.2⟩, va_recv hK hP (ci := 4) (q0 := 0) rfl (app_0 hM0), fun U hU hW => ⟨rfl, by rw [hU], tk_E.warm hW hE, by rw [hU]; exact tk_lastP (ws := (o, .inl (ka 5, 1, .inr (.inl g))) :: Wd') hP2, (tk_lastD (ws := (o, .inl (ka 5, 1, .inr (.inl g))) :: Wd') hD2).weaken (fun _ _ _ _ => trivial)⟩⟩ rfl rfl hl.1 rfl (lv_room (Nat.le_of_ble_eq_true rfl)) dL_law_458 ⟨by show 47 + k + 1 + 0 ≤ 601024; omega, by show 111203 + 6 * k + 6 + 0 ≤ 7293034; omega⟩) hS (fun q _ h => hFc q h) hFc (fun u9 t H1 locs ht hvm hw9 hB hz1 hk1 hS => ?_)
    have hB1 : va_P (dC, dI) clB Md' H1 := by rw [← ht]; exact hB
    obtain ⟨hP, hD⟩ := tk_joinW (ws := (o, .inl (ka 5, 1, .inr (.inl g))) :: Wd') (wc := Md) hP2 hD2 hk1 hFc hB1 ((RW_mapM hR).trans (RW_mapM hR').symm)
    have hP := tk_commP hP
    have hD := tk_commD hD
    generalize H1 = H at hP hS ⊢
    refine lv_aload_n hx hb dL_law_461 rfl (lv_at hl 3 rfl) ?_
    refine vp_callSi (va_Run.run (va_runV (As := []) (rest := []) ⟨hx, hb, hml, hown, hts2⟩ hTc (cwV 0 hts2 (tw_V wi_542 wi_543 wi_544 wi_28 wi_545) rfl rfl rfl (by decide +kernel) ⟨by show frT + 1 ≤ 12; omega, by show 8 + (1 + 11) + loT ≤ 428; omega⟩) ⟨fun a U g mk q => ⟨q.1, tk_E.call q.2.1, q.2.2⟩, va_recv hK hP (ci := 4) (q0 := 0) rfl (app_0 hM3), fun U hU hW => ⟨rfl, tk_E.warm hW hE, by rw [hU]; exact tk_lastP (ws := (o, .inl (ka 5, 1, .inr (.inl g))) :: Wd') (tk_commP hP)⟩⟩ rfl rfl hl.1 rfl (lv_room (Nat.le_of_ble_eq_true rfl)) dL_law_462 ⟨by show 47 + k + 1 + 0 ≤ 601024; omega, by show 111203 + 6 * k + 6 + 0 ≤ 7293034; omega⟩)) (fun r8 er8 => ?_)
    subst er8
    refine lv_iload hx hb dL_law_465 (lv_at hl 0 rfl) ?_
    refine lv_icmp_eq (tgt := 472) hx hb dL_law_467 (by decide) (fun c_1 => ?_) (fun c_1 => absurd rfl c_1)
    refine lv_goto (tgt := 624) hx hb dL_law_472 (by decide) ?_
    exact K _ (w + 1) _ _ _ _ _ _ (by omega) hR' hP hD hS (lv_sub hl [1, 2, 3, 4, 5] rfl)
  rcases hdis with ⟨rfl, hO⟩ | ⟨rfl, hO⟩
  · have hP1 : va_P (dC, dI) clB ((Md ++ [(o, .inl (ka 5, 1, .inr (.inl g)))]) ++ Wd) H := by rw [List.append_assoc]; exact hP
    have hD1 : va_D (fun q : Nat => s.heap.size ≤ q) ((Md ++ [(o, .inl (ka 5, 1, .inr (.inl g)))]) ++ Wd) := by rw [List.append_assoc]; exact hD
    have hFc := tk_freeG (ws := (Md ++ [(o, .inl (ka 5, 1, .inr (.inl g)))])) (wc := Wd) hD1 hS hA
    refine va_calli (vx_runSW (As := [.ref h, .int (xs (5 * k + 1))]) (rest := []) ⟨hx, hb, hml, hown, hts2⟩ (c_L_charge_ok l dC dI ka _ h (xs (5 * k + 1)) Wd Wd' fs hW0 hmW hO) (vx_cwSW 2 hts2 (tw_A wi_448 wi_449 wi_23 wi_450) rfl rfl rfl (by decide +kernel) ⟨Nat.le_of_ble_eq_true rfl, Nat.le_of_ble_eq_true rfl⟩) ⟨fun a U g mk q => ⟨q.1, q.2.1, tk_E.call q.2.2.1, q.2.2.2⟩, fun U hU hW => ⟨rfl, by rw [hU], tk_E.warm hW hE, by rw [hU]; exact tk_lastP (ws := (Md ++ [(o, .inl (ka 5, 1, .inr (.inl g)))])) hP1, (tk_lastD (ws := (Md ++ [(o, .inl (ka 5, 1, .inr (.inl g)))])) hD1).weaken (fun _ _ _ _ => trivial)⟩⟩ rfl rfl hl.1 rfl (lv_room (Nat.le_of_ble_eq_true rfl)) dL_law_446 ⟨by show 47 + k + 0 ≤ 601024; omega, by show 111203 + 6 * k + 0 ≤ 7293034; omega⟩) hS (fun q _ h => hFc q h) hFc (fun r9 u9 t H1 locs ht hvm hw9 hB hz1 hk1 hS => ?_)
    subst hw9
    have hB1 : va_P (dC, dI) clB Wd' H1 := by rw [← ht]; exact hB
    obtain ⟨hP, hD⟩ := tk_joinW (ws := (Md ++ [(o, .inl (ka 5, 1, .inr (.inl g)))])) (wc := Wd) hP1 hD1 hk1 hFc hB1 hmW
    rw [List.append_assoc] at hP hD
    refine W.widen (k := 47 + k + 1) (n := 111203 + 6 * k + 6) (by omega) (by omega) ?_
    exact K2 g H1 locs  hP hD hS
  · have hP1 : va_P (dC, dI) clB ((Md ++ [(o, .inl (ka 5, 1, .inr (.inl g)))]) ++ Wd) H := by rw [List.append_assoc]; exact hP
    have hD1 : va_D (fun q : Nat => s.heap.size ≤ q) ((Md ++ [(o, .inl (ka 5, 1, .inr (.inl g)))]) ++ Wd) := by rw [List.append_assoc]; exact hD
    have hFc := tk_freeG (ws := (Md ++ [(o, .inl (ka 5, 1, .inr (.inl g)))])) (wc := Wd) hD1 hS hA
    refine va_calli (vx_runSW (As := [.ref h, .int (xs (5 * k + 1))]) (rest := []) ⟨hx, hb, hml, hown, hts2⟩ (c_L_charge_IAE l dC dI ka sa _ h (xs (5 * k + 1)) Wd Wd' fs hW0 hmW hO) (vx_cwSW 2 hts2 (tw_A wi_448 wi_449 wi_23 wi_450) rfl rfl rfl (by decide +kernel) ⟨Nat.le_of_ble_eq_true rfl, Nat.le_of_ble_eq_true rfl⟩) ⟨fun a U g mk q => ⟨q.1, q.2.1, tk_E.call q.2.2.1, tk_X.call q.2.2.2.1, tk_Z.call q.2.2.2.2.1, tk_N.call q.2.2.2.2.2.1, q.2.2.2.2.2.2⟩, fun U hU hW => ⟨rfl, by rw [hU], tk_E.warm hW hE, tk_X.warm hW hXx, tk_Z.at hZz hS hU hW hFc, tk_N.moved hW.alike hNn, by rw [hU]; exact tk_lastP (ws := (Md ++ [(o, .inl (ka 5, 1, .inr (.inl g)))])) hP1, (tk_lastD (ws := (Md ++ [(o, .inl (ka 5, 1, .inr (.inl g)))])) hD1).weaken (fun _ _ _ _ => trivial)⟩⟩ rfl rfl hl.1 rfl (lv_room (Nat.le_of_ble_eq_true rfl)) dL_law_446 ⟨by show 47 + k + 1 ≤ 601024; omega, by show 111203 + 6 * k + 6 ≤ 7293034; omega⟩) hS (fun q _ h => hFc q h) hFc (fun r9 u9 t H1 locs ht hvm hw9 hB hz1 hk1 hS => ?_)
    subst hw9
    have hB1 : va_P (dC, dI) clB Wd' H1 := by rw [← ht]; exact hB
    obtain ⟨hP, hD⟩ := tk_joinW (ws := (Md ++ [(o, .inl (ka 5, 1, .inr (.inl g)))])) (wc := Wd) hP1 hD1 hk1 hFc hB1 hmW
    rw [List.append_assoc] at hP hD
    exact K2 g H1 locs  hP hD hS
