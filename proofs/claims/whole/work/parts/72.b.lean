set_option maxHeartbeats 4000000 in
set_option maxRecDepth 100000 in
theorem lc_set {p : Program} {l : Launch} {e : Env} {s : State} {m : MethodId} {below : List Frame} {meth : Method} {c : Code} {dC : Nat → ClassId} {dI : Nat → Nat → Nat} {ka : Nat → ClassId} {sa : Nat → Nat} {b L : Nat} {xs : Nat → Int32} (hL : L ≤ 2560) (C0 : lw_At p s m meth c b L xs) (hst : l.stackTraces = false) (hE : tk_E dC dI ka s) (hXx : tk_X sa s) (hZz : tk_Z (fun q : Nat => s.heap.size ≤ q) s s.heap) (hNn : tk_N s) {h dr db lg fa : Nat} {fr fb : Nat → Nat} {h2 : Nat} {ad : Nat → Nat} {o : Nat} {k w : Nat} {mth : Int32} {g : Nat → Int64} {Wd Md : va_W} {H : Heap} {locs : List Loc} {ls : Array Slot} (hk : 5 * k + 5 ≤ L) (hw : w ≤ 12 * k) (hR : RW h dr db lg fa fr fb ka h2 ad mth k w Wd Md) (hP : va_P (dC, dI) clB (Md ++ (o, .inl (ka 5, 1, .inr (.inl g))) :: Wd) H) (hD : va_D (fun q : Nat => s.heap.size ≤ q) (Md ++ (o, .inl (ka 5, 1, .inr (.inl g))) :: Wd)) (hS : va_S (fun q : Nat => s.heap.size ≤ q) s.heap H locs) (hl : lv_has ls 7 [(0, .ref b), (1, .ref h), (2, .ref h2), (3, .ref o), (4, .int (nI (5 * k)))]) (K : ∀ (mth' : Int32) (w' : Nat) (g' : Nat → Int64) (Wd' Md' : va_W) (H : Heap) (locs : List Loc) (ls : Array Slot), w' ≤ 12 * (k + 1) → RW h dr db lg fa fr fb ka h2 ad mth' (k + 1) w' Wd' Md' → va_P (dC, dI) clB (Md' ++ (o, .inl (ka 5, 1, .inr (.inl g'))) :: Wd') H → va_D (fun q : Nat => s.heap.size ≤ q) (Md' ++ (o, .inl (ka 5, 1, .inr (.inl g'))) :: Wd') → va_S (fun q : Nat => s.heap.size ≤ q) s.heap H locs → lv_has ls 7 [(0, .ref b), (1, .ref h), (2, .ref h2), (3, .ref o), (4, .int (nI (5 * k)))] → W p l e room_1 s m #[Value.ref b] below meth c H locs (47 + (k + 1)) (111203 + 6 * (k + 1)) (lw_Z below #[Value.ref b] s) (F0 m 624 ls [])) : W p l e room_1 s m #[Value.ref b] below meth c H locs (47 + k) (111203 + 6 * k) (lw_Z below #[Value.ref b] s) (F0 m 278 ls []) := by
  obtain ⟨hx, hb, hr, hml, hown, hts, hX, hbl, hlocks, hgv⟩ := C0
  have hA : ∀ q : Nat, s.heap.size ≤ q → (fun q : Nat => s.heap.size ≤ q) q := fun _ h => h
  have hbA : ¬ (fun q : Nat => s.heap.size ≤ q) b := Nat.not_le.mpr hbl
  have hown : s.vm.findClass RL = some m.cls := hown
  have hK := hE.1
  have hts2 : ∀ w ∈ kL_pin :: lwg, w.before #[Value.ref b] s = true := fun w hw => by
    rcases List.mem_cons.mp hw with e | e
    · rw [e]; exact hts _ (lwg_in wi_214)
    · exact hts _ (lwg_in e)
  obtain ⟨fs, hW0⟩ := RW_W0 hR
  obtain ⟨fs2, hM0⟩ := RW_M0 hR
  obtain ⟨Wd', Md', r, hR', ⟨frM, loM, hfM, hlM, hMc⟩, ⟨frB, loB, hfB, hlB, hBc⟩⟩ := S_set l dC dI ka h dr db lg fa fr fb h2 ad mth k w Wd Md hR (by omega) (by omega) (xs (5 * k + 1)) (xs (5 * k + 2)) (xs (5 * k + 3)) (xs (5 * k + 4))
  refine lv_aload_n hx hb dL_law_278 rfl (lv_at hl 1 rfl) ?_
  refine lv_aload_n hx hb dL_law_279 rfl (lv_at hl 0 rfl) ?_
  refine lv_iload hx hb dL_law_280 (lv_at hl 4 rfl) ?_
  refine lv_iconst (v := 1) hx hb dL_law_282 (by decide) ?_
  refine lv_iadd hx hb dL_law_283 ?_
  refine lw_ld (i := 5 * k) (j := 1) hx hb hX hbl hbA hS rfl (by omega) (by omega) dL_law_284 ?_
  refine lv_aload_n hx hb dL_law_285 rfl (lv_at hl 0 rfl) ?_
  refine lv_iload hx hb dL_law_286 (lv_at hl 4 rfl) ?_
  refine lv_iconst (v := 2) hx hb dL_law_288 (by decide) ?_
  refine lv_iadd hx hb dL_law_289 ?_
  refine lw_ld (i := 5 * k) (j := 2) hx hb hX hbl hbA hS rfl (by omega) (by omega) dL_law_290 ?_
  refine lv_aload_n hx hb dL_law_291 rfl (lv_at hl 0 rfl) ?_
  refine lv_iload hx hb dL_law_292 (lv_at hl 4 rfl) ?_
  refine lv_iconst (v := 3) hx hb dL_law_294 (by decide) ?_
  refine lv_iadd hx hb dL_law_295 ?_
  refine lw_ld (i := 5 * k) (j := 3) hx hb hX hbl hbA hS rfl (by omega) (by omega) dL_law_296 ?_
  refine lv_aload_n hx hb dL_law_297 rfl (lv_at hl 0 rfl) ?_
  refine lv_iload hx hb dL_law_298 (lv_at hl 4 rfl) ?_
  refine lv_iconst (v := 4) hx hb dL_law_300 (by decide) ?_
  refine lv_iadd hx hb dL_law_301 ?_
  refine lw_ld (i := 5 * k) (j := 4) hx hb hX hbl hbA hS rfl (by omega) (by omega) dL_law_302 ?_
  have hP1 : va_P (dC, dI) clB ((Md ++ [(o, .inl (ka 5, 1, .inr (.inl g)))]) ++ Wd) H := by rw [List.append_assoc]; exact hP
  have hD1 : va_D (fun q : Nat => s.heap.size ≤ q) ((Md ++ [(o, .inl (ka 5, 1, .inr (.inl g)))]) ++ Wd) := by rw [List.append_assoc]; exact hD
  have hFc := tk_freeG (ws := (Md ++ [(o, .inl (ka 5, 1, .inr (.inl g)))])) (wc := Wd) hD1 hS hA
  refine va_calli (va_runV (As := [.int (xs (5 * k + 1)), .int (xs (5 * k + 2)), .int (xs (5 * k + 3)), .int (xs (5 * k + 4))]) (rest := []) ⟨hx, hb, hml, hown, hts2⟩ (hBc _) (cwV 4 hts2 (tw_V wi_153 wi_154 wi_155 wi_24 wi_156) rfl rfl rfl (by decide +kernel) ⟨by show frB + 1 ≤ 12; omega, by show 8 + (5 + 11) + loB ≤ 428; omega⟩) ⟨fun a U g mk q => ⟨q.1, q.2.1, tk_E.call q.2.2.1, q.2.2.2⟩, va_recv hK hP (ci := 3) (q0 := Md.length + 1) rfl (app_1 hW0), fun U hU hW => ⟨rfl, by rw [hU], tk_E.warm hW hE, by rw [hU]; exact tk_lastP (ws := (Md ++ [(o, .inl (ka 5, 1, .inr (.inl g)))])) hP1, (tk_lastD (ws := (Md ++ [(o, .inl (ka 5, 1, .inr (.inl g)))])) hD1).weaken (fun _ _ _ _ => trivial)⟩⟩ rfl rfl hl.1 rfl (lv_room (Nat.le_of_ble_eq_true rfl)) dL_law_303 ⟨by show 47 + k + 0 ≤ 601024; omega, by show 111203 + 6 * k + 0 ≤ 7293034; omega⟩) hS (fun q _ h => hFc q h) hFc (fun r9 u9 t H1 locs ht hvm hw9 hB hz1 hk1 hS => ?_)
  subst hw9
  have hB1 : va_P (dC, dI) clB Wd' H1 := by rw [← ht]; exact hB
  obtain ⟨hP, hD⟩ := tk_joinW (ws := (Md ++ [(o, .inl (ka 5, 1, .inr (.inl g)))])) (wc := Wd) hP1 hD1 hk1 hFc hB1 ((RW_mapW hR).trans (RW_mapW hR').symm)
  rw [List.append_assoc] at hP hD
  generalize H1 = H at hP hS ⊢
  have hP : va_P (dC, dI) clB (Md ++ (o, .inl (ka 5, 1, .inr (.inl g))) :: Wd') H := hP
  have hD : va_D (fun q : Nat => s.heap.size ≤ q) (Md ++ (o, .inl (ka 5, 1, .inr (.inl g))) :: Wd') := hD
  refine lv_aload_n hx hb dL_law_306 rfl (lv_at hl 2 rfl) ?_
  refine lv_aload_n hx hb dL_law_307 rfl (lv_at hl 0 rfl) ?_
  refine lv_iload hx hb dL_law_308 (lv_at hl 4 rfl) ?_
  refine lv_iconst (v := 1) hx hb dL_law_310 (by decide) ?_
  refine lv_iadd hx hb dL_law_311 ?_
  refine lw_ld (i := 5 * k) (j := 1) hx hb hX hbl hbA hS rfl (by omega) (by omega) dL_law_312 ?_
  refine lv_aload_n hx hb dL_law_313 rfl (lv_at hl 0 rfl) ?_
  refine lv_iload hx hb dL_law_314 (lv_at hl 4 rfl) ?_
  refine lv_iconst (v := 2) hx hb dL_law_316 (by decide) ?_
  refine lv_iadd hx hb dL_law_317 ?_
  refine lw_ld (i := 5 * k) (j := 2) hx hb hX hbl hbA hS rfl (by omega) (by omega) dL_law_318 ?_
  refine lv_aload_n hx hb dL_law_319 rfl (lv_at hl 0 rfl) ?_
  refine lv_iload hx hb dL_law_320 (lv_at hl 4 rfl) ?_
  refine lv_iconst (v := 3) hx hb dL_law_322 (by decide) ?_
  refine lv_iadd hx hb dL_law_323 ?_
  refine lw_ld (i := 5 * k) (j := 3) hx hb hX hbl hbA hS rfl (by omega) (by omega) dL_law_324 ?_
  refine lv_aload_n hx hb dL_law_325 rfl (lv_at hl 0 rfl) ?_
  refine lv_iload hx hb dL_law_326 (lv_at hl 4 rfl) ?_
  refine lv_iconst (v := 4) hx hb dL_law_328 (by decide) ?_
  refine lv_iadd hx hb dL_law_329 ?_
  refine lw_ld (i := 5 * k) (j := 4) hx hb hX hbl hbA hS rfl (by omega) (by omega) dL_law_330 ?_
  have hP2 := tk_commP hP
  have hD2 := tk_commD hD
  have hFc := tk_freeG (ws := (o, .inl (ka 5, 1, .inr (.inl g))) :: Wd') (wc := Md) hD2 hS hA
  refine va_calli (va_runV (As := [.int (xs (5 * k + 1)), .int (xs (5 * k + 2)), .int (xs (5 * k + 3)), .int (xs (5 * k + 4))]) (rest := [.int r9]) ⟨hx, hb, hml, hown, hts2⟩ (hMc _) (cwV 4 hts2 (tw_V wi_625 wi_626 wi_627 wi_28 wi_628) rfl rfl rfl (by decide +kernel) ⟨by show frM + 1 ≤ 12; omega, by show 8 + (5 + 11) + loM ≤ 428; omega⟩) ⟨fun a U g mk q => ⟨q.1, q.2.1, tk_E.call q.2.2.1, q.2.2.2⟩, va_recv hK hP (ci := 4) (q0 := 0) rfl (app_0 hM0), fun U hU hW => ⟨rfl, by rw [hU], tk_E.warm hW hE, by rw [hU]; exact tk_lastP (ws := (o, .inl (ka 5, 1, .inr (.inl g))) :: Wd') hP2, (tk_lastD (ws := (o, .inl (ka 5, 1, .inr (.inl g))) :: Wd') hD2).weaken (fun _ _ _ _ => trivial)⟩⟩ rfl rfl hl.1 rfl (lv_room (Nat.le_of_ble_eq_true rfl)) dL_law_331 ⟨by show 47 + k + 0 ≤ 601024; omega, by show 111203 + 6 * k + 0 ≤ 7293034; omega⟩) hS (fun q _ h => hFc q h) hFc (fun r9 u9 t H1 locs ht hvm hw9 hB hz1 hk1 hS => ?_)
  subst hw9
  have hB1 : va_P (dC, dI) clB Md' H1 := by rw [← ht]; exact hB
  obtain ⟨hP, hD⟩ := tk_joinW (ws := (o, .inl (ka 5, 1, .inr (.inl g))) :: Wd') (wc := Md) hP2 hD2 hk1 hFc hB1 ((RW_mapM hR).trans (RW_mapM hR').symm)
  have hP := tk_commP hP
  have hD := tk_commD hD
  generalize H1 = H at hP hS ⊢
  refine lv_icmp_eq (tgt := 624) hx hb dL_law_334 (by decide) (fun c_1 => ?_) (fun c_1 => absurd rfl c_1)
  refine W.widen (k := 47 + (k + 1)) (n := 111203 + 6 * (k + 1)) (by omega) (by omega) ?_
  exact K _ (w + 1) _ _ _ _ _ _ (by omega) hR' hP hD hS hl

set_option maxHeartbeats 4000000 in
set_option maxRecDepth 100000 in
theorem lc_flushed {p : Program} {l : Launch} {e : Env} {s : State} {m : MethodId} {below : List Frame} {meth : Method} {c : Code} {dC : Nat → ClassId} {dI : Nat → Nat → Nat} {ka : Nat → ClassId} {sa : Nat → Nat} {b L : Nat} {xs : Nat → Int32} (hL : L ≤ 2560) (C0 : lw_At p s m meth c b L xs) (hst : l.stackTraces = false) (hE : tk_E dC dI ka s) (hXx : tk_X sa s) (hZz : tk_Z (fun q : Nat => s.heap.size ≤ q) s s.heap) (hNn : tk_N s) {h dr db lg fa : Nat} {fr fb : Nat → Nat} {h2 : Nat} {ad : Nat → Nat} {o : Nat} {k w : Nat} {mth : Int32} {g : Nat → Int64} {Wd Md : va_W} {H : Heap} {locs : List Loc} {ls : Array Slot} (hk : 5 * k + 5 ≤ L) (hw : w ≤ 12 * k) (hR : RW h dr db lg fa fr fb ka h2 ad mth k w Wd Md) (hP : va_P (dC, dI) clB (Md ++ (o, .inl (ka 5, 1, .inr (.inl g))) :: Wd) H) (hD : va_D (fun q : Nat => s.heap.size ≤ q) (Md ++ (o, .inl (ka 5, 1, .inr (.inl g))) :: Wd)) (hS : va_S (fun q : Nat => s.heap.size ≤ q) s.heap H locs) (hl : lv_has ls 7 [(0, .ref b), (1, .ref h), (2, .ref h2), (3, .ref o), (4, .int (nI (5 * k)))]) (K : ∀ (mth' : Int32) (w' : Nat) (g' : Nat → Int64) (Wd' Md' : va_W) (H : Heap) (locs : List Loc) (ls : Array Slot), w' ≤ 12 * (k + 1) → RW h dr db lg fa fr fb ka h2 ad mth' (k + 1) w' Wd' Md' → va_P (dC, dI) clB (Md' ++ (o, .inl (ka 5, 1, .inr (.inl g'))) :: Wd') H → va_D (fun q : Nat => s.heap.size ≤ q) (Md' ++ (o, .inl (ka 5, 1, .inr (.inl g'))) :: Wd') → va_S (fun q : Nat => s.heap.size ≤ q) s.heap H locs → lv_has ls 7 [(0, .ref b), (1, .ref h), (2, .ref h2), (3, .ref o), (4, .int (nI (5 * k)))] → W p l e room_1 s m #[Value.ref b] below meth c H locs (47 + (k + 1)) (111203 + 6 * (k + 1)) (lw_Z below #[Value.ref b] s) (F0 m 624 ls [])) : W p l e room_1 s m #[Value.ref b] below meth c H locs (47 + k) (111203 + 6 * k) (lw_Z below #[Value.ref b] s) (F0 m 475 ls []) := by
  obtain ⟨hx, hb, hr, hml, hown, hts, hX, hbl, hlocks, hgv⟩ := C0
  have hA : ∀ q : Nat, s.heap.size ≤ q → (fun q : Nat => s.heap.size ≤ q) q := fun _ h => h
  have hbA : ¬ (fun q : Nat => s.heap.size ≤ q) b := Nat.not_le.mpr hbl
  have hown : s.vm.findClass RL = some m.cls := hown
  have hK := hE.1
  have hts2 : ∀ w ∈ kL_pin :: lwg, w.before #[Value.ref b] s = true := fun w hw => by
    rcases List.mem_cons.mp hw with e | e
    · rw [e]; exact hts _ (lwg_in wi_214)
    · exact hts _ (lwg_in e)
  obtain ⟨fs, hW0⟩ := RW_W0 hR
  obtain ⟨fs2, hM0⟩ := RW_M0 hR
  obtain ⟨Wd', Md', r, hR', ⟨frM, loM, hfM, hlM, hMc⟩, ⟨frB, loB, hfB, hlB, hBc⟩⟩ := S_flushed l dC dI ka h dr db lg fa fr fb h2 ad mth k w Wd Md hR (by omega) (by omega) (xs (5 * k + 1))
  refine lv_aload_n hx hb dL_law_475 rfl (lv_at hl 1 rfl) ?_
  refine lv_aload_n hx hb dL_law_476 rfl (lv_at hl 0 rfl) ?_
  refine lv_iload hx hb dL_law_477 (lv_at hl 4 rfl) ?_
  refine lv_iconst (v := 1) hx hb dL_law_479 (by decide) ?_
  refine lv_iadd hx hb dL_law_480 ?_
  refine lw_ld (i := 5 * k) (j := 1) hx hb hX hbl hbA hS rfl (by omega) (by omega) dL_law_481 ?_
  have hP1 : va_P (dC, dI) clB ((Md ++ [(o, .inl (ka 5, 1, .inr (.inl g)))]) ++ Wd) H := by rw [List.append_assoc]; exact hP
  have hD1 : va_D (fun q : Nat => s.heap.size ≤ q) ((Md ++ [(o, .inl (ka 5, 1, .inr (.inl g)))]) ++ Wd) := by rw [List.append_assoc]; exact hD
  have hFc := tk_freeG (ws := (Md ++ [(o, .inl (ka 5, 1, .inr (.inl g)))])) (wc := Wd) hD1 hS hA
  refine va_calli (va_runV (As := [.int (xs (5 * k + 1))]) (rest := []) ⟨hx, hb, hml, hown, hts2⟩ (hBc _) (cwV 1 hts2 (tw_V wi_168 wi_169 wi_170 wi_24 wi_171) rfl rfl rfl (by decide +kernel) ⟨by show frB + 1 ≤ 12; omega, by show 8 + (2 + 11) + loB ≤ 428; omega⟩) ⟨fun a U g mk q => ⟨q.1, q.2.1, tk_E.call q.2.2.1, q.2.2.2⟩, va_recv hK hP (ci := 3) (q0 := Md.length + 1) rfl (app_1 hW0), fun U hU hW => ⟨rfl, by rw [hU], tk_E.warm hW hE, by rw [hU]; exact tk_lastP (ws := (Md ++ [(o, .inl (ka 5, 1, .inr (.inl g)))])) hP1, (tk_lastD (ws := (Md ++ [(o, .inl (ka 5, 1, .inr (.inl g)))])) hD1).weaken (fun _ _ _ _ => trivial)⟩⟩ rfl rfl hl.1 rfl (lv_room (Nat.le_of_ble_eq_true rfl)) dL_law_482 ⟨by show 47 + k + 0 ≤ 601024; omega, by show 111203 + 6 * k + 0 ≤ 7293034; omega⟩) hS (fun q _ h => hFc q h) hFc (fun r9 u9 t H1 locs ht hvm hw9 hB hz1 hk1 hS => ?_)
  subst hw9
  have hB1 : va_P (dC, dI) clB Wd' H1 := by rw [← ht]; exact hB
  obtain ⟨hP, hD⟩ := tk_joinW (ws := (Md ++ [(o, .inl (ka 5, 1, .inr (.inl g)))])) (wc := Wd) hP1 hD1 hk1 hFc hB1 ((RW_mapW hR).trans (RW_mapW hR').symm)
  rw [List.append_assoc] at hP hD
  generalize H1 = H at hP hS ⊢
  have hP : va_P (dC, dI) clB (Md ++ (o, .inl (ka 5, 1, .inr (.inl g))) :: Wd') H := hP
  have hD : va_D (fun q : Nat => s.heap.size ≤ q) (Md ++ (o, .inl (ka 5, 1, .inr (.inl g))) :: Wd') := hD
  refine lv_aload_n hx hb dL_law_485 rfl (lv_at hl 2 rfl) ?_
  refine lv_aload_n hx hb dL_law_486 rfl (lv_at hl 0 rfl) ?_
  refine lv_iload hx hb dL_law_487 (lv_at hl 4 rfl) ?_
  refine lv_iconst (v := 1) hx hb dL_law_489 (by decide) ?_
  refine lv_iadd hx hb dL_law_490 ?_
  refine lw_ld (i := 5 * k) (j := 1) hx hb hX hbl hbA hS rfl (by omega) (by omega) dL_law_491 ?_
  have hP2 := tk_commP hP
  have hD2 := tk_commD hD
  have hFc := tk_freeG (ws := (o, .inl (ka 5, 1, .inr (.inl g))) :: Wd') (wc := Md) hD2 hS hA
  refine va_calli (va_runV (As := [.int (xs (5 * k + 1))]) (rest := [.int r9]) ⟨hx, hb, hml, hown, hts2⟩ (hMc _) (cwV 1 hts2 (tw_V wi_641 wi_642 wi_643 wi_28 wi_644) rfl rfl rfl (by decide +kernel) ⟨by show frM + 1 ≤ 12; omega, by show 8 + (3 + 11) + loM ≤ 428; omega⟩) ⟨fun a U g mk q => ⟨q.1, q.2.1, tk_E.call q.2.2.1, q.2.2.2⟩, va_recv hK hP (ci := 4) (q0 := 0) rfl (app_0 hM0), fun U hU hW => ⟨rfl, by rw [hU], tk_E.warm hW hE, by rw [hU]; exact tk_lastP (ws := (o, .inl (ka 5, 1, .inr (.inl g))) :: Wd') hP2, (tk_lastD (ws := (o, .inl (ka 5, 1, .inr (.inl g))) :: Wd') hD2).weaken (fun _ _ _ _ => trivial)⟩⟩ rfl rfl hl.1 rfl (lv_room (Nat.le_of_ble_eq_true rfl)) dL_law_492 ⟨by show 47 + k + 0 ≤ 601024; omega, by show 111203 + 6 * k + 0 ≤ 7293034; omega⟩) hS (fun q _ h => hFc q h) hFc (fun r9 u9 t H1 locs ht hvm hw9 hB hz1 hk1 hS => ?_)
  subst hw9
  have hB1 : va_P (dC, dI) clB Md' H1 := by rw [← ht]; exact hB
  obtain ⟨hP, hD⟩ := tk_joinW (ws := (o, .inl (ka 5, 1, .inr (.inl g))) :: Wd') (wc := Md) hP2 hD2 hk1 hFc hB1 ((RW_mapM hR).trans (RW_mapM hR').symm)
  have hP := tk_commP hP
  have hD := tk_commD hD
  generalize H1 = H at hP hS ⊢
  refine lv_icmp_eq (tgt := 624) hx hb dL_law_495 (by decide) (fun c_1 => ?_) (fun c_1 => absurd rfl c_1)
  refine W.widen (k := 47 + (k + 1)) (n := 111203 + 6 * (k + 1)) (by omega) (by omega) ?_
  exact K _ (w + 1) _ _ _ _ _ _ (by omega) hR' hP hD hS hl

set_option maxHeartbeats 4000000 in
set_option maxRecDepth 100000 in
theorem lc_look {p : Program} {l : Launch} {e : Env} {s : State} {m : MethodId} {below : List Frame} {meth : Method} {c : Code} {dC : Nat → ClassId} {dI : Nat → Nat → Nat} {ka : Nat → ClassId} {sa : Nat → Nat} {b L : Nat} {xs : Nat → Int32} (hL : L ≤ 2560) (C0 : lw_At p s m meth c b L xs) (hst : l.stackTraces = false) (hE : tk_E dC dI ka s) (hXx : tk_X sa s) (hZz : tk_Z (fun q : Nat => s.heap.size ≤ q) s s.heap) (hNn : tk_N s) {h dr db lg fa : Nat} {fr fb : Nat → Nat} {h2 : Nat} {ad : Nat → Nat} {o : Nat} {k w : Nat} {mth : Int32} {g : Nat → Int64} {Wd Md : va_W} {H : Heap} {locs : List Loc} {ls : Array Slot} (hk : 5 * k + 5 ≤ L) (hw : w ≤ 12 * k) (hR : RW h dr db lg fa fr fb ka h2 ad mth k w Wd Md) (hP : va_P (dC, dI) clB (Md ++ (o, .inl (ka 5, 1, .inr (.inl g))) :: Wd) H) (hD : va_D (fun q : Nat => s.heap.size ≤ q) (Md ++ (o, .inl (ka 5, 1, .inr (.inl g))) :: Wd)) (hS : va_S (fun q : Nat => s.heap.size ≤ q) s.heap H locs) (hl : lv_has ls 7 [(0, .ref b), (1, .ref h), (2, .ref h2), (3, .ref o), (4, .int (nI (5 * k)))]) (K : ∀ (mth' : Int32) (w' : Nat) (g' : Nat → Int64) (Wd' Md' : va_W) (H : Heap) (locs : List Loc) (ls : Array Slot), w' ≤ 12 * (k + 1) → RW h dr db lg fa fr fb ka h2 ad mth' (k + 1) w' Wd' Md' → va_P (dC, dI) clB (Md' ++ (o, .inl (ka 5, 1, .inr (.inl g'))) :: Wd') H → va_D (fun q : Nat => s.heap.size ≤ q) (Md' ++ (o, .inl (ka 5, 1, .inr (.inl g'))) :: Wd') → va_S (fun q : Nat => s.heap.size ≤ q) s.heap H locs → lv_has ls 7 [(0, .ref b), (1, .ref h), (2, .ref h2), (3, .ref o), (4, .int (nI (5 * k)))] → W p l e room_1 s m #[Value.ref b] below meth c H locs (47 + (k + 1)) (111203 + 6 * (k + 1)) (lw_Z below #[Value.ref b] s) (F0 m 624 ls [])) : W p l e room_1 s m #[Value.ref b] below meth c H locs (47 + k) (111203 + 6 * k) (lw_Z below #[Value.ref b] s) (F0 m 500 ls []) := by
  obtain ⟨hx, hb, hr, hml, hown, hts, hX, hbl, hlocks, hgv⟩ := C0
  have hA : ∀ q : Nat, s.heap.size ≤ q → (fun q : Nat => s.heap.size ≤ q) q := fun _ h => h
  have hbA : ¬ (fun q : Nat => s.heap.size ≤ q) b := Nat.not_le.mpr hbl
  have hown : s.vm.findClass RL = some m.cls := hown
  have hK := hE.1
  have hts2 : ∀ w ∈ kL_pin :: lwg, w.before #[Value.ref b] s = true := fun w hw => by
    rcases List.mem_cons.mp hw with e | e
    · rw [e]; exact hts _ (lwg_in wi_214)
    · exact hts _ (lwg_in e)
  obtain ⟨fs, hW0⟩ := RW_W0 hR
  obtain ⟨fs2, hM0⟩ := RW_M0 hR
  obtain ⟨Md', r, hR', ⟨frM, loM, hfM, hlM, hMc⟩, ⟨frB, loB, hfB, hlB, hBc⟩⟩ := S_look l dC dI ka h dr db lg fa fr fb h2 ad mth k w Wd Md hR (by omega) (by omega) (xs (5 * k + 1)) (xs (5 * k + 2))
  refine lv_aload_n hx hb dL_law_500 rfl (lv_at hl 1 rfl) ?_
  refine lv_aload_n hx hb dL_law_501 rfl (lv_at hl 0 rfl) ?_
  refine lv_iload hx hb dL_law_502 (lv_at hl 4 rfl) ?_
  refine lv_iconst (v := 1) hx hb dL_law_504 (by decide) ?_
  refine lv_iadd hx hb dL_law_505 ?_
  refine lw_ld (i := 5 * k) (j := 1) hx hb hX hbl hbA hS rfl (by omega) (by omega) dL_law_506 ?_
  refine lv_aload_n hx hb dL_law_507 rfl (lv_at hl 0 rfl) ?_
  refine lv_iload hx hb dL_law_508 (lv_at hl 4 rfl) ?_
  refine lv_iconst (v := 2) hx hb dL_law_510 (by decide) ?_
  refine lv_iadd hx hb dL_law_511 ?_
  refine lw_ld (i := 5 * k) (j := 2) hx hb hX hbl hbA hS rfl (by omega) (by omega) dL_law_512 ?_
  have hP1 : va_P (dC, dI) clB ((Md ++ [(o, .inl (ka 5, 1, .inr (.inl g)))]) ++ Wd) H := by rw [List.append_assoc]; exact hP
  refine vp_callSi (va_Run.run (va_runV (As := [.int (xs (5 * k + 1)), .int (xs (5 * k + 2))]) (rest := []) ⟨hx, hb, hml, hown, hts2⟩ hBc (cwV 2 hts2 (tw_V wi_176 wi_177 wi_178 wi_24 wi_179) rfl rfl rfl (by decide +kernel) ⟨by show frB + 1 ≤ 12; omega, by show 8 + (3 + 11) + loB ≤ 428; omega⟩) ⟨fun a U g mk q => ⟨q.1, tk_E.call q.2.1, q.2.2⟩, va_recv hK hP (ci := 3) (q0 := Md.length + 1) rfl (app_1 hW0), fun U hU hW => ⟨rfl, tk_E.warm hW hE, by rw [hU]; exact tk_lastP (ws := (Md ++ [(o, .inl (ka 5, 1, .inr (.inl g)))])) hP1⟩⟩ rfl rfl hl.1 rfl (lv_room (Nat.le_of_ble_eq_true rfl)) dL_law_513 ⟨by show 47 + k + 0 ≤ 601024; omega, by show 111203 + 6 * k + 0 ≤ 7293034; omega⟩)) (fun r9 er9 => ?_)
  subst er9
  refine lv_aload_n hx hb dL_law_516 rfl (lv_at hl 2 rfl) ?_
  refine lv_aload_n hx hb dL_law_517 rfl (lv_at hl 0 rfl) ?_
  refine lv_iload hx hb dL_law_518 (lv_at hl 4 rfl) ?_
  refine lv_iconst (v := 1) hx hb dL_law_520 (by decide) ?_
  refine lv_iadd hx hb dL_law_521 ?_
  refine lw_ld (i := 5 * k) (j := 1) hx hb hX hbl hbA hS rfl (by omega) (by omega) dL_law_522 ?_
  refine lv_aload_n hx hb dL_law_523 rfl (lv_at hl 0 rfl) ?_
  refine lv_iload hx hb dL_law_524 (lv_at hl 4 rfl) ?_
  refine lv_iconst (v := 2) hx hb dL_law_526 (by decide) ?_
  refine lv_iadd hx hb dL_law_527 ?_
  refine lw_ld (i := 5 * k) (j := 2) hx hb hX hbl hbA hS rfl (by omega) (by omega) dL_law_528 ?_
  have hP2 := tk_commP hP
  have hD2 := tk_commD hD
  have hFc := tk_freeG (ws := (o, .inl (ka 5, 1, .inr (.inl g))) :: Wd) (wc := Md) hD2 hS hA
  refine va_calli (va_runV (As := [.int (xs (5 * k + 1)), .int (xs (5 * k + 2))]) (rest := [.int r9]) ⟨hx, hb, hml, hown, hts2⟩ (hMc _) (cwV 2 hts2 (tw_V wi_645 wi_646 wi_647 wi_28 wi_648) rfl rfl rfl (by decide +kernel) ⟨by show frM + 1 ≤ 12; omega, by show 8 + (3 + 11) + loM ≤ 428; omega⟩) ⟨fun a U g mk q => ⟨q.1, q.2.1, tk_E.call q.2.2.1, q.2.2.2⟩, va_recv hK hP (ci := 4) (q0 := 0) rfl (app_0 hM0), fun U hU hW => ⟨rfl, by rw [hU], tk_E.warm hW hE, by rw [hU]; exact tk_lastP (ws := (o, .inl (ka 5, 1, .inr (.inl g))) :: Wd) hP2, (tk_lastD (ws := (o, .inl (ka 5, 1, .inr (.inl g))) :: Wd) hD2).weaken (fun _ _ _ _ => trivial)⟩⟩ rfl rfl hl.1 rfl (lv_room (Nat.le_of_ble_eq_true rfl)) dL_law_529 ⟨by show 47 + k + 0 ≤ 601024; omega, by show 111203 + 6 * k + 0 ≤ 7293034; omega⟩) hS (fun q _ h => hFc q h) hFc (fun r9 u9 t H1 locs ht hvm hw9 hB hz1 hk1 hS => ?_)
  subst hw9
  have hB1 : va_P (dC, dI) clB Md' H1 := by rw [← ht]; exact hB
  obtain ⟨hP, hD⟩ := tk_joinW (ws := (o, .inl (ka 5, 1, .inr (.inl g))) :: Wd) (wc := Md) hP2 hD2 hk1 hFc hB1 ((RW_mapM hR).trans (RW_mapM hR').symm)
  have hP := tk_commP hP
  have hD := tk_commD hD
  generalize H1 = H at hP hS ⊢
  refine lv_icmp_eq (tgt := 624) hx hb dL_law_532 (by decide) (fun c_1 => ?_) (fun c_1 => absurd rfl c_1)
  refine W.widen (k := 47 + (k + 1)) (n := 111203 + 6 * (k + 1)) (by omega) (by omega) ?_
  exact K _ (w + 1) _ _ _ _ _ _ (by omega) hR' hP hD hS hl

set_option maxHeartbeats 4000000 in
set_option maxRecDepth 100000 in
theorem lc_disk {p : Program} {l : Launch} {e : Env} {s : State} {m : MethodId} {below : List Frame} {meth : Method} {c : Code} {dC : Nat → ClassId} {dI : Nat → Nat → Nat} {ka : Nat → ClassId} {sa : Nat → Nat} {b L : Nat} {xs : Nat → Int32} (hL : L ≤ 2560) (C0 : lw_At p s m meth c b L xs) (hst : l.stackTraces = false) (hE : tk_E dC dI ka s) (hXx : tk_X sa s) (hZz : tk_Z (fun q : Nat => s.heap.size ≤ q) s s.heap) (hNn : tk_N s) {h dr db lg fa : Nat} {fr fb : Nat → Nat} {h2 : Nat} {ad : Nat → Nat} {o : Nat} {k w : Nat} {mth : Int32} {g : Nat → Int64} {Wd Md : va_W} {H : Heap} {locs : List Loc} {ls : Array Slot} (hk : 5 * k + 5 ≤ L) (hw : w ≤ 12 * k) (hR : RW h dr db lg fa fr fb ka h2 ad mth k w Wd Md) (hP : va_P (dC, dI) clB (Md ++ (o, .inl (ka 5, 1, .inr (.inl g))) :: Wd) H) (hD : va_D (fun q : Nat => s.heap.size ≤ q) (Md ++ (o, .inl (ka 5, 1, .inr (.inl g))) :: Wd)) (hS : va_S (fun q : Nat => s.heap.size ≤ q) s.heap H locs) (hl : lv_has ls 7 [(0, .ref b), (1, .ref h), (2, .ref h2), (3, .ref o), (4, .int (nI (5 * k)))]) (K : ∀ (mth' : Int32) (w' : Nat) (g' : Nat → Int64) (Wd' Md' : va_W) (H : Heap) (locs : List Loc) (ls : Array Slot), w' ≤ 12 * (k + 1) → RW h dr db lg fa fr fb ka h2 ad mth' (k + 1) w' Wd' Md' → va_P (dC, dI) clB (Md' ++ (o, .inl (ka 5, 1, .inr (.inl g'))) :: Wd') H → va_D (fun q : Nat => s.heap.size ≤ q) (Md' ++ (o, .inl (ka 5, 1, .inr (.inl g'))) :: Wd') → va_S (fun q : Nat => s.heap.size ≤ q) s.heap H locs → lv_has ls 7 [(0, .ref b), (1, .ref h), (2, .ref h2), (3, .ref o), (4, .int (nI (5 * k)))] → W p l e room_1 s m #[Value.ref b] below meth c H locs (47 + (k + 1)) (111203 + 6 * (k + 1)) (lw_Z below #[Value.ref b] s) (F0 m 624 ls [])) : W p l e room_1 s m #[Value.ref b] below meth c H locs (47 + k) (111203 + 6 * k) (lw_Z below #[Value.ref b] s) (F0 m 537 ls []) := by
  obtain ⟨hx, hb, hr, hml, hown, hts, hX, hbl, hlocks, hgv⟩ := C0
  have hA : ∀ q : Nat, s.heap.size ≤ q → (fun q : Nat => s.heap.size ≤ q) q := fun _ h => h
  have hbA : ¬ (fun q : Nat => s.heap.size ≤ q) b := Nat.not_le.mpr hbl
  have hown : s.vm.findClass RL = some m.cls := hown
  have hK := hE.1
  have hts2 : ∀ w ∈ kL_pin :: lwg, w.before #[Value.ref b] s = true := fun w hw => by
    rcases List.mem_cons.mp hw with e | e
    · rw [e]; exact hts _ (lwg_in wi_214)
    · exact hts _ (lwg_in e)
  obtain ⟨fs, hW0⟩ := RW_W0 hR
  obtain ⟨fs2, hM0⟩ := RW_M0 hR
  obtain ⟨Md', r, hR', ⟨frM, loM, hfM, hlM, hMc⟩, ⟨frB, loB, hfB, hlB, hBc⟩⟩ := S_disk l dC dI ka h dr db lg fa fr fb h2 ad mth k w Wd Md hR (by omega) (by omega) (xs (5 * k + 1)) (xs (5 * k + 2))
  refine lv_aload_n hx hb dL_law_537 rfl (lv_at hl 1 rfl) ?_
  refine lv_aload_n hx hb dL_law_538 rfl (lv_at hl 0 rfl) ?_
  refine lv_iload hx hb dL_law_539 (lv_at hl 4 rfl) ?_
  refine lv_iconst (v := 1) hx hb dL_law_541 (by decide) ?_
  refine lv_iadd hx hb dL_law_542 ?_
  refine lw_ld (i := 5 * k) (j := 1) hx hb hX hbl hbA hS rfl (by omega) (by omega) dL_law_543 ?_
  refine lv_aload_n hx hb dL_law_544 rfl (lv_at hl 0 rfl) ?_
  refine lv_iload hx hb dL_law_545 (lv_at hl 4 rfl) ?_
  refine lv_iconst (v := 2) hx hb dL_law_547 (by decide) ?_
  refine lv_iadd hx hb dL_law_548 ?_
  refine lw_ld (i := 5 * k) (j := 2) hx hb hX hbl hbA hS rfl (by omega) (by omega) dL_law_549 ?_
  have hP1 : va_P (dC, dI) clB ((Md ++ [(o, .inl (ka 5, 1, .inr (.inl g)))]) ++ Wd) H := by rw [List.append_assoc]; exact hP
  refine vp_callSi (va_Run.run (va_runV (As := [.int (xs (5 * k + 1)), .int (xs (5 * k + 2))]) (rest := []) ⟨hx, hb, hml, hown, hts2⟩ hBc (cwV 2 hts2 (tw_V wi_180 wi_181 wi_182 wi_24 wi_183) rfl rfl rfl (by decide +kernel) ⟨by show frB + 1 ≤ 12; omega, by show 8 + (3 + 11) + loB ≤ 428; omega⟩) ⟨fun a U g mk q => ⟨q.1, tk_E.call q.2.1, q.2.2⟩, va_recv hK hP (ci := 3) (q0 := Md.length + 1) rfl (app_1 hW0), fun U hU hW => ⟨rfl, tk_E.warm hW hE, by rw [hU]; exact tk_lastP (ws := (Md ++ [(o, .inl (ka 5, 1, .inr (.inl g)))])) hP1⟩⟩ rfl rfl hl.1 rfl (lv_room (Nat.le_of_ble_eq_true rfl)) dL_law_550 ⟨by show 47 + k + 0 ≤ 601024; omega, by show 111203 + 6 * k + 0 ≤ 7293034; omega⟩)) (fun r9 er9 => ?_)
  subst er9
  refine lv_aload_n hx hb dL_law_553 rfl (lv_at hl 2 rfl) ?_
  refine lv_aload_n hx hb dL_law_554 rfl (lv_at hl 0 rfl) ?_
  refine lv_iload hx hb dL_law_555 (lv_at hl 4 rfl) ?_
  refine lv_iconst (v := 1) hx hb dL_law_557 (by decide) ?_
  refine lv_iadd hx hb dL_law_558 ?_
  refine lw_ld (i := 5 * k) (j := 1) hx hb hX hbl hbA hS rfl (by omega) (by omega) dL_law_559 ?_
  refine lv_aload_n hx hb dL_law_560 rfl (lv_at hl 0 rfl) ?_
  refine lv_iload hx hb dL_law_561 (lv_at hl 4 rfl) ?_
  refine lv_iconst (v := 2) hx hb dL_law_563 (by decide) ?_
  refine lv_iadd hx hb dL_law_564 ?_
  refine lw_ld (i := 5 * k) (j := 2) hx hb hX hbl hbA hS rfl (by omega) (by omega) dL_law_565 ?_
  have hP2 := tk_commP hP
  have hD2 := tk_commD hD
  have hFc := tk_freeG (ws := (o, .inl (ka 5, 1, .inr (.inl g))) :: Wd) (wc := Md) hD2 hS hA
  refine va_calli (va_runV (As := [.int (xs (5 * k + 1)), .int (xs (5 * k + 2))]) (rest := [.int r9]) ⟨hx, hb, hml, hown, hts2⟩ (hMc _) (cwV 2 hts2 (tw_V wi_565 wi_566 wi_567 wi_28 wi_568) rfl rfl rfl (by decide +kernel) ⟨by show frM + 1 ≤ 12; omega, by show 8 + (4 + 11) + loM ≤ 428; omega⟩) ⟨fun a U g mk q => ⟨q.1, q.2.1, tk_E.call q.2.2.1, q.2.2.2⟩, va_recv hK hP (ci := 4) (q0 := 0) rfl (app_0 hM0), fun U hU hW => ⟨rfl, by rw [hU], tk_E.warm hW hE, by rw [hU]; exact tk_lastP (ws := (o, .inl (ka 5, 1, .inr (.inl g))) :: Wd) hP2, (tk_lastD (ws := (o, .inl (ka 5, 1, .inr (.inl g))) :: Wd) hD2).weaken (fun _ _ _ _ => trivial)⟩⟩ rfl rfl hl.1 rfl (lv_room (Nat.le_of_ble_eq_true rfl)) dL_law_566 ⟨by show 47 + k + 0 ≤ 601024; omega, by show 111203 + 6 * k + 0 ≤ 7293034; omega⟩) hS (fun q _ h => hFc q h) hFc (fun r9 u9 t H1 locs ht hvm hw9 hB hz1 hk1 hS => ?_)
  subst hw9
  have hB1 : va_P (dC, dI) clB Md' H1 := by rw [← ht]; exact hB
  obtain ⟨hP, hD⟩ := tk_joinW (ws := (o, .inl (ka 5, 1, .inr (.inl g))) :: Wd) (wc := Md) hP2 hD2 hk1 hFc hB1 ((RW_mapM hR).trans (RW_mapM hR').symm)
  have hP := tk_commP hP
  have hD := tk_commD hD
  generalize H1 = H at hP hS ⊢
  refine lv_icmp_eq (tgt := 624) hx hb dL_law_569 (by decide) (fun c_1 => ?_) (fun c_1 => absurd rfl c_1)
  refine W.widen (k := 47 + (k + 1)) (n := 111203 + 6 * (k + 1)) (by omega) (by omega) ?_
  exact K _ (w + 1) _ _ _ _ _ _ (by omega) hR' hP hD hS hl

set_option maxHeartbeats 4000000 in
set_option maxRecDepth 100000 in
theorem lc_torn {p : Program} {l : Launch} {e : Env} {s : State} {m : MethodId} {below : List Frame} {meth : Method} {c : Code} {dC : Nat → ClassId} {dI : Nat → Nat → Nat} {ka : Nat → ClassId} {sa : Nat → Nat} {b L : Nat} {xs : Nat → Int32} (hL : L ≤ 2560) (C0 : lw_At p s m meth c b L xs) (hst : l.stackTraces = false) (hE : tk_E dC dI ka s) (hXx : tk_X sa s) (hZz : tk_Z (fun q : Nat => s.heap.size ≤ q) s s.heap) (hNn : tk_N s) {h dr db lg fa : Nat} {fr fb : Nat → Nat} {h2 : Nat} {ad : Nat → Nat} {o : Nat} {k w : Nat} {mth : Int32} {g : Nat → Int64} {Wd Md : va_W} {H : Heap} {locs : List Loc} {ls : Array Slot} (hk : 5 * k + 5 ≤ L) (hw : w ≤ 12 * k) (hR : RW h dr db lg fa fr fb ka h2 ad mth k w Wd Md) (hP : va_P (dC, dI) clB (Md ++ (o, .inl (ka 5, 1, .inr (.inl g))) :: Wd) H) (hD : va_D (fun q : Nat => s.heap.size ≤ q) (Md ++ (o, .inl (ka 5, 1, .inr (.inl g))) :: Wd)) (hS : va_S (fun q : Nat => s.heap.size ≤ q) s.heap H locs) (hl : lv_has ls 7 [(0, .ref b), (1, .ref h), (2, .ref h2), (3, .ref o), (4, .int (nI (5 * k)))]) (K : ∀ (mth' : Int32) (w' : Nat) (g' : Nat → Int64) (Wd' Md' : va_W) (H : Heap) (locs : List Loc) (ls : Array Slot), w' ≤ 12 * (k + 1) → RW h dr db lg fa fr fb ka h2 ad mth' (k + 1) w' Wd' Md' → va_P (dC, dI) clB (Md' ++ (o, .inl (ka 5, 1, .inr (.inl g'))) :: Wd') H → va_D (fun q : Nat => s.heap.size ≤ q) (Md' ++ (o, .inl (ka 5, 1, .inr (.inl g'))) :: Wd') → va_S (fun q : Nat => s.heap.size ≤ q) s.heap H locs → lv_has ls 7 [(0, .ref b), (1, .ref h), (2, .ref h2), (3, .ref o), (4, .int (nI (5 * k)))] → W p l e room_1 s m #[Value.ref b] below meth c H locs (47 + (k + 1)) (111203 + 6 * (k + 1)) (lw_Z below #[Value.ref b] s) (F0 m 624 ls [])) : W p l e room_1 s m #[Value.ref b] below meth c H locs (47 + k) (111203 + 6 * k) (lw_Z below #[Value.ref b] s) (F0 m 574 ls []) := by
  obtain ⟨hx, hb, hr, hml, hown, hts, hX, hbl, hlocks, hgv⟩ := C0
  have hA : ∀ q : Nat, s.heap.size ≤ q → (fun q : Nat => s.heap.size ≤ q) q := fun _ h => h
  have hbA : ¬ (fun q : Nat => s.heap.size ≤ q) b := Nat.not_le.mpr hbl
  have hown : s.vm.findClass RL = some m.cls := hown
  have hK := hE.1
  have hts2 : ∀ w ∈ kL_pin :: lwg, w.before #[Value.ref b] s = true := fun w hw => by
    rcases List.mem_cons.mp hw with e | e
    · rw [e]; exact hts _ (lwg_in wi_214)
    · exact hts _ (lwg_in e)
  obtain ⟨fs, hW0⟩ := RW_W0 hR
  obtain ⟨fs2, hM0⟩ := RW_M0 hR
  obtain ⟨Md', r, hR', ⟨frM, loM, hfM, hlM, hMc⟩, ⟨frB, loB, hfB, hlB, hBc⟩⟩ := S_torn l dC dI ka h dr db lg fa fr fb h2 ad mth k w Wd Md hR (by omega) (by omega) (xs (5 * k + 1))
  refine lv_aload_n hx hb dL_law_574 rfl (lv_at hl 1 rfl) ?_
  refine lv_aload_n hx hb dL_law_575 rfl (lv_at hl 0 rfl) ?_
  refine lv_iload hx hb dL_law_576 (lv_at hl 4 rfl) ?_
  refine lv_iconst (v := 1) hx hb dL_law_578 (by decide) ?_
  refine lv_iadd hx hb dL_law_579 ?_
  refine lw_ld (i := 5 * k) (j := 1) hx hb hX hbl hbA hS rfl (by omega) (by omega) dL_law_580 ?_
  have hP1 : va_P (dC, dI) clB ((Md ++ [(o, .inl (ka 5, 1, .inr (.inl g)))]) ++ Wd) H := by rw [List.append_assoc]; exact hP
  refine vp_callSi (va_Run.run (va_runV (As := [.int (xs (5 * k + 1))]) (rest := []) ⟨hx, hb, hml, hown, hts2⟩ hBc (cwV 1 hts2 (tw_V wi_191 wi_192 wi_193 wi_24 wi_194) rfl rfl rfl (by decide +kernel) ⟨by show frB + 1 ≤ 12; omega, by show 8 + (2 + 11) + loB ≤ 428; omega⟩) ⟨fun a U g mk q => ⟨q.1, tk_E.call q.2.1, q.2.2⟩, va_recv hK hP (ci := 3) (q0 := Md.length + 1) rfl (app_1 hW0), fun U hU hW => ⟨rfl, tk_E.warm hW hE, by rw [hU]; exact tk_lastP (ws := (Md ++ [(o, .inl (ka 5, 1, .inr (.inl g)))])) hP1⟩⟩ rfl rfl hl.1 rfl (lv_room (Nat.le_of_ble_eq_true rfl)) dL_law_581 ⟨by show 47 + k + 0 ≤ 601024; omega, by show 111203 + 6 * k + 0 ≤ 7293034; omega⟩)) (fun r9 er9 => ?_)
  subst er9
  refine lv_aload_n hx hb dL_law_584 rfl (lv_at hl 2 rfl) ?_
  refine lv_aload_n hx hb dL_law_585 rfl (lv_at hl 0 rfl) ?_
  refine lv_iload hx hb dL_law_586 (lv_at hl 4 rfl) ?_
  refine lv_iconst (v := 1) hx hb dL_law_588 (by decide) ?_
  refine lv_iadd hx hb dL_law_589 ?_
  refine lw_ld (i := 5 * k) (j := 1) hx hb hX hbl hbA hS rfl (by omega) (by omega) dL_law_590 ?_
  have hP2 := tk_commP hP
  have hD2 := tk_commD hD
  have hFc := tk_freeG (ws := (o, .inl (ka 5, 1, .inr (.inl g))) :: Wd) (wc := Md) hD2 hS hA
  refine va_calli (va_runV (As := [.int (xs (5 * k + 1))]) (rest := [.int r9]) ⟨hx, hb, hml, hown, hts2⟩ (hMc _) (cwV 1 hts2 (tw_V wi_572 wi_573 wi_574 wi_28 wi_575) rfl rfl rfl (by decide +kernel) ⟨by show frM + 1 ≤ 12; omega, by show 8 + (2 + 11) + loM ≤ 428; omega⟩) ⟨fun a U g mk q => ⟨q.1, q.2.1, tk_E.call q.2.2.1, q.2.2.2⟩, va_recv hK hP (ci := 4) (q0 := 0) rfl (app_0 hM0), fun U hU hW => ⟨rfl, by rw [hU], tk_E.warm hW hE, by rw [hU]; exact tk_lastP (ws := (o, .inl (ka 5, 1, .inr (.inl g))) :: Wd) hP2, (tk_lastD (ws := (o, .inl (ka 5, 1, .inr (.inl g))) :: Wd) hD2).weaken (fun _ _ _ _ => trivial)⟩⟩ rfl rfl hl.1 rfl (lv_room (Nat.le_of_ble_eq_true rfl)) dL_law_591 ⟨by show 47 + k + 0 ≤ 601024; omega, by show 111203 + 6 * k + 0 ≤ 7293034; omega⟩) hS (fun q _ h => hFc q h) hFc (fun r9 u9 t H1 locs ht hvm hw9 hB hz1 hk1 hS => ?_)
  subst hw9
  have hB1 : va_P (dC, dI) clB Md' H1 := by rw [← ht]; exact hB
  obtain ⟨hP, hD⟩ := tk_joinW (ws := (o, .inl (ka 5, 1, .inr (.inl g))) :: Wd) (wc := Md) hP2 hD2 hk1 hFc hB1 ((RW_mapM hR).trans (RW_mapM hR').symm)
  have hP := tk_commP hP
  have hD := tk_commD hD
  generalize H1 = H at hP hS ⊢
  refine lv_icmp_eq (tgt := 624) hx hb dL_law_594 (by decide) (fun c_1 => ?_) (fun c_1 => absurd rfl c_1)
  refine W.widen (k := 47 + (k + 1)) (n := 111203 + 6 * (k + 1)) (by omega) (by omega) ?_
  exact K _ (w + 1) _ _ _ _ _ _ (by omega) hR' hP hD hS hl

set_option maxHeartbeats 4000000 in
set_option maxRecDepth 100000 in
theorem lc_count {p : Program} {l : Launch} {e : Env} {s : State} {m : MethodId} {below : List Frame} {meth : Method} {c : Code} {dC : Nat → ClassId} {dI : Nat → Nat → Nat} {ka : Nat → ClassId} {sa : Nat → Nat} {b L : Nat} {xs : Nat → Int32} (hL : L ≤ 2560) (C0 : lw_At p s m meth c b L xs) (hst : l.stackTraces = false) (hE : tk_E dC dI ka s) (hXx : tk_X sa s) (hZz : tk_Z (fun q : Nat => s.heap.size ≤ q) s s.heap) (hNn : tk_N s) {h dr db lg fa : Nat} {fr fb : Nat → Nat} {h2 : Nat} {ad : Nat → Nat} {o : Nat} {k w : Nat} {mth : Int32} {g : Nat → Int64} {Wd Md : va_W} {H : Heap} {locs : List Loc} {ls : Array Slot} (hk : 5 * k + 5 ≤ L) (hw : w ≤ 12 * k) (hR : RW h dr db lg fa fr fb ka h2 ad mth k w Wd Md) (hP : va_P (dC, dI) clB (Md ++ (o, .inl (ka 5, 1, .inr (.inl g))) :: Wd) H) (hD : va_D (fun q : Nat => s.heap.size ≤ q) (Md ++ (o, .inl (ka 5, 1, .inr (.inl g))) :: Wd)) (hS : va_S (fun q : Nat => s.heap.size ≤ q) s.heap H locs) (hl : lv_has ls 7 [(0, .ref b), (1, .ref h), (2, .ref h2), (3, .ref o), (4, .int (nI (5 * k)))]) (K : ∀ (mth' : Int32) (w' : Nat) (g' : Nat → Int64) (Wd' Md' : va_W) (H : Heap) (locs : List Loc) (ls : Array Slot), w' ≤ 12 * (k + 1) → RW h dr db lg fa fr fb ka h2 ad mth' (k + 1) w' Wd' Md' → va_P (dC, dI) clB (Md' ++ (o, .inl (ka 5, 1, .inr (.inl g'))) :: Wd') H → va_D (fun q : Nat => s.heap.size ≤ q) (Md' ++ (o, .inl (ka 5, 1, .inr (.inl g'))) :: Wd') → va_S (fun q : Nat => s.heap.size ≤ q) s.heap H locs → lv_has ls 7 [(0, .ref b), (1, .ref h), (2, .ref h2), (3, .ref o), (4, .int (nI (5 * k)))] → W p l e room_1 s m #[Value.ref b] below meth c H locs (47 + (k + 1)) (111203 + 6 * (k + 1)) (lw_Z below #[Value.ref b] s) (F0 m 624 ls [])) : W p l e room_1 s m #[Value.ref b] below meth c H locs (47 + k) (111203 + 6 * k) (lw_Z below #[Value.ref b] s) (F0 m 599 ls []) := by
  obtain ⟨hx, hb, hr, hml, hown, hts, hX, hbl, hlocks, hgv⟩ := C0
  have hA : ∀ q : Nat, s.heap.size ≤ q → (fun q : Nat => s.heap.size ≤ q) q := fun _ h => h
  have hbA : ¬ (fun q : Nat => s.heap.size ≤ q) b := Nat.not_le.mpr hbl
  have hown : s.vm.findClass RL = some m.cls := hown
  have hK := hE.1
  have hts2 : ∀ w ∈ kL_pin :: lwg, w.before #[Value.ref b] s = true := fun w hw => by
    rcases List.mem_cons.mp hw with e | e
    · rw [e]; exact hts _ (lwg_in wi_214)
    · exact hts _ (lwg_in e)
  obtain ⟨fs, hW0⟩ := RW_W0 hR
  obtain ⟨fs2, hM0⟩ := RW_M0 hR
  obtain ⟨Md', r, hR', ⟨frM, loM, hfM, hlM, hMc⟩, ⟨frB, loB, hfB, hlB, hBc⟩⟩ := S_count l dC dI ka h dr db lg fa fr fb h2 ad mth k w Wd Md hR (by omega) (by omega) (xs (5 * k + 1))
  refine lv_aload_n hx hb dL_law_599 rfl (lv_at hl 1 rfl) ?_
  refine lv_aload_n hx hb dL_law_600 rfl (lv_at hl 0 rfl) ?_
  refine lv_iload hx hb dL_law_601 (lv_at hl 4 rfl) ?_
  refine lv_iconst (v := 1) hx hb dL_law_603 (by decide) ?_
  refine lv_iadd hx hb dL_law_604 ?_
  refine lw_ld (i := 5 * k) (j := 1) hx hb hX hbl hbA hS rfl (by omega) (by omega) dL_law_605 ?_
  have hP1 : va_P (dC, dI) clB ((Md ++ [(o, .inl (ka 5, 1, .inr (.inl g)))]) ++ Wd) H := by rw [List.append_assoc]; exact hP
  refine vp_callSi (va_Run.run (va_runV (As := [.int (xs (5 * k + 1))]) (rest := []) ⟨hx, hb, hml, hown, hts2⟩ hBc (cwV 1 hts2 (tw_V wi_204 wi_205 wi_206 wi_24 wi_207) rfl rfl rfl (by decide +kernel) ⟨by show frB + 1 ≤ 12; omega, by show 8 + (2 + 11) + loB ≤ 428; omega⟩) ⟨fun a U g mk q => ⟨q.1, tk_E.call q.2.1, q.2.2⟩, va_recv hK hP (ci := 3) (q0 := Md.length + 1) rfl (app_1 hW0), fun U hU hW => ⟨rfl, tk_E.warm hW hE, by rw [hU]; exact tk_lastP (ws := (Md ++ [(o, .inl (ka 5, 1, .inr (.inl g)))])) hP1⟩⟩ rfl rfl hl.1 rfl (lv_room (Nat.le_of_ble_eq_true rfl)) dL_law_606 ⟨by show 47 + k + 0 ≤ 601024; omega, by show 111203 + 6 * k + 0 ≤ 7293034; omega⟩)) (fun r9 er9 => ?_)
  subst er9
  refine lv_aload_n hx hb dL_law_609 rfl (lv_at hl 2 rfl) ?_
  refine lv_aload_n hx hb dL_law_610 rfl (lv_at hl 0 rfl) ?_
  refine lv_iload hx hb dL_law_611 (lv_at hl 4 rfl) ?_
  refine lv_iconst (v := 1) hx hb dL_law_613 (by decide) ?_
  refine lv_iadd hx hb dL_law_614 ?_
  refine lw_ld (i := 5 * k) (j := 1) hx hb hX hbl hbA hS rfl (by omega) (by omega) dL_law_615 ?_
  have hP2 := tk_commP hP
  have hD2 := tk_commD hD
  have hFc := tk_freeG (ws := (o, .inl (ka 5, 1, .inr (.inl g))) :: Wd) (wc := Md) hD2 hS hA
  refine va_calli (va_runV (As := [.int (xs (5 * k + 1))]) (rest := [.int r9]) ⟨hx, hb, hml, hown, hts2⟩ (hMc _) (cwV 1 hts2 (tw_V wi_649 wi_650 wi_651 wi_28 wi_652) rfl rfl rfl (by decide +kernel) ⟨by show frM + 1 ≤ 12; omega, by show 8 + (4 + 11) + loM ≤ 428; omega⟩) ⟨fun a U g mk q => ⟨q.1, q.2.1, tk_E.call q.2.2.1, q.2.2.2⟩, va_recv hK hP (ci := 4) (q0 := 0) rfl (app_0 hM0), fun U hU hW => ⟨rfl, by rw [hU], tk_E.warm hW hE, by rw [hU]; exact tk_lastP (ws := (o, .inl (ka 5, 1, .inr (.inl g))) :: Wd) hP2, (tk_lastD (ws := (o, .inl (ka 5, 1, .inr (.inl g))) :: Wd) hD2).weaken (fun _ _ _ _ => trivial)⟩⟩ rfl rfl hl.1 rfl (lv_room (Nat.le_of_ble_eq_true rfl)) dL_law_616 ⟨by show 47 + k + 0 ≤ 601024; omega, by show 111203 + 6 * k + 0 ≤ 7293034; omega⟩) hS (fun q _ h => hFc q h) hFc (fun r9 u9 t H1 locs ht hvm hw9 hB hz1 hk1 hS => ?_)
  subst hw9
  have hB1 : va_P (dC, dI) clB Md' H1 := by rw [← ht]; exact hB
  obtain ⟨hP, hD⟩ := tk_joinW (ws := (o, .inl (ka 5, 1, .inr (.inl g))) :: Wd) (wc := Md) hP2 hD2 hk1 hFc hB1 ((RW_mapM hR).trans (RW_mapM hR').symm)
  have hP := tk_commP hP
  have hD := tk_commD hD
  generalize H1 = H at hP hS ⊢
  refine lv_icmp_eq (tgt := 624) hx hb dL_law_619 (by decide) (fun c_1 => ?_) (fun c_1 => absurd rfl c_1)
  refine W.widen (k := 47 + (k + 1)) (n := 111203 + 6 * (k + 1)) (by omega) (by omega) ?_
  exact K _ (w + 1) _ _ _ _ _ _ (by omega) hR' hP hD hS hl
