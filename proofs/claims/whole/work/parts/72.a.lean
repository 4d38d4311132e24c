set_option maxHeartbeats 4000000 in
set_option maxRecDepth 100000 in
theorem lc_unpin {p : Program} {l : Launch} {e : Env} {s : State} {m : MethodId} {below : List Frame} {meth : Method} {c : Code} {dC : Nat → ClassId} {dI : Nat → Nat → Nat} {ka : Nat → ClassId} {sa : Nat → Nat} {b L : Nat} {xs : Nat → Int32} (hL : L ≤ 2560) (C0 : lw_At p s m meth c b L xs) (hst : l.stackTraces = false) (hE : tk_E dC dI ka s) (hXx : tk_X sa s) (hZz : tk_Z (fun q : Nat => s.heap.size ≤ q) s s.heap) (hNn : tk_N s) {h dr db lg fa : Nat} {fr fb : Nat → Nat} {h2 : Nat} {ad : Nat → Nat} {o : Nat} {k w : Nat} {mth : Int32} {g : Nat → Int64} {Wd Md : va_W} {H : Heap} {locs : List Loc} {ls : Array Slot} (hk : 5 * k + 5 ≤ L) (hw : w ≤ 12 * k) (hR : RW h dr db lg fa fr fb ka h2 ad mth k w Wd Md) (hP : va_P (dC, dI) clB (Md ++ (o, .inl (ka 5, 1, .inr (.inl g))) :: Wd) H) (hD : va_D (fun q : Nat => s.heap.size ≤ q) (Md ++ (o, .inl (ka 5, 1, .inr (.inl g))) :: Wd)) (hS : va_S (fun q : Nat => s.heap.size ≤ q) s.heap H locs) (hl : lv_has ls 7 [(0, .ref b), (1, .ref h), (2, .ref h2), (3, .ref o), (4, .int (nI (5 * k)))]) (K : ∀ (mth' : Int32) (w' : Nat) (g' : Nat → Int64) (Wd' Md' : va_W) (H : Heap) (locs : List Loc) (ls : Array Slot), w' ≤ 12 * (k + 1) → RW h dr db lg fa fr fb ka h2 ad mth' (k + 1) w' Wd' Md' → va_P (dC, dI) clB (Md' ++ (o, .inl (ka 5, 1, .inr (.inl g'))) :: Wd') H → va_D (fun q : Nat => s.heap.size ≤ q) (Md' ++ (o, .inl (ka 5, 1, .inr (.inl g'))) :: Wd') → va_S (fun q : Nat => s.heap.size ≤ q) s.heap H locs → lv_has ls 7 [(0, .ref b), (1, .ref h), (2, .ref h2), (3, .ref o), (4, .int (nI (5 * k)))] → W p l e room_1 s m #[Value.ref b] below meth c H locs (47 + (k + 1)) (111203 + 6 * (k + 1)) (lw_Z below #[Value.ref b] s) (F0 m 624 ls [])) : W p l e room_1 s m #[Value.ref b] below meth c H locs (47 + k) (111203 + 6 * k) (lw_Z below #[Value.ref b] s) (F0 m 216 ls []) := by
  obtain ⟨hx, hb, hr, hml, hown, hts, hX, hbl, hlocks, hgv⟩ := C0
  have hA : ∀ q : Nat, s.heap.size ≤ q → (fun q : Nat => s.heap.size ≤ q) q := fun _ h => h
  have hbA : ¬ (fun q : Nat => s.heap.size ≤ q) b := Nat.not_le.mpr hbl
  have hown : s.vm.findClass RL = some m.cls := hown
  have hK := hE.1
  have hts2 : ∀ w ∈ kL_pin :: lwg, w.before #[Value.ref b] s = true := fun w hw => by
    rcases List.mem_cons.mp hw with e | e
    · rw [e]; exact hts _ (lwg_in wi_214)
    · exact hts _ (lwg_in e)
  obtain ⟨fs, hW0⟩ := RW_W0 hR
  obtain ⟨fs2, hM0⟩ := RW_M0 hR
  obtain ⟨Wd', Md', r, hR', ⟨frM, loM, hfM, hlM, hMc⟩, ⟨frB, loB, hfB, hlB, hBc⟩⟩ := S_unpin l dC dI ka h dr db lg fa fr fb h2 ad mth k w Wd Md hR (by omega) (by omega) (xs (5 * k + 1))
  refine lv_aload_n hx hb dL_law_216 rfl (lv_at hl 1 rfl) ?_
  refine lv_aload_n hx hb dL_law_217 rfl (lv_at hl 0 rfl) ?_
  refine lv_iload hx hb dL_law_218 (lv_at hl 4 rfl) ?_
  refine lv_iconst (v := 1) hx hb dL_law_220 (by decide) ?_
  refine lv_iadd hx hb dL_law_221 ?_
  refine lw_ld (i := 5 * k) (j := 1) hx hb hX hbl hbA hS rfl (by omega) (by omega) dL_law_222 ?_
  have hP1 : va_P (dC, dI) clB ((Md ++ [(o, .inl (ka 5, 1, .inr (.inl g)))]) ++ Wd) H := by rw [List.append_assoc]; exact hP
  have hD1 : va_D (fun q : Nat => s.heap.size ≤ q) ((Md ++ [(o, .inl (ka 5, 1, .inr (.inl g)))]) ++ Wd) := by rw [List.append_assoc]; exact hD
  have hFc := tk_freeG (ws := (Md ++ [(o, .inl (ka 5, 1, .inr (.inl g)))])) (wc := Wd) hD1 hS hA
  refine va_calli (va_runV (As := [.int (xs (5 * k + 1))]) (rest := []) ⟨hx, hb, hml, hown, hts2⟩ (hBc _) (cwV 1 hts2 (tw_V wi_127 wi_128 wi_129 wi_24 wi_130) rfl rfl rfl (by decide +kernel) ⟨by show frB + 1 ≤ 12; omega, by show 8 + (2 + 11) + loB ≤ 428; omega⟩) ⟨fun a U g mk q => ⟨q.1, q.2.1, tk_E.call q.2.2.1, q.2.2.2⟩, va_recv hK hP (ci := 3) (q0 := Md.length + 1) rfl (app_1 hW0), fun U hU hW => ⟨rfl, by rw [hU], tk_E.warm hW hE, by rw [hU]; exact tk_lastP (ws := (Md ++ [(o, .inl (ka 5, 1, .inr (.inl g)))])) hP1, (tk_lastD (ws := (Md ++ [(o, .inl (ka 5, 1, .inr (.inl g)))])) hD1).weaken (fun _ _ _ _ => trivial)⟩⟩ rfl rfl hl.1 rfl (lv_room (Nat.le_of_ble_eq_true rfl)) dL_law_223 ⟨by show 47 + k + 0 ≤ 601024; omega, by show 111203 + 6 * k + 0 ≤ 7293034; omega⟩) hS (fun q _ h => hFc q h) hFc (fun r9 u9 t H1 locs ht hvm hw9 hB hz1 hk1 hS => ?_)
  subst hw9
  have hB1 : va_P (dC, dI) clB Wd' H1 := by rw [← ht]; exact hB
  obtain ⟨hP, hD⟩ := tk_joinW (ws := (Md ++ [(o, .inl (ka 5, 1, .inr (.inl g)))])) (wc := Wd) hP1 hD1 hk1 hFc hB1 ((RW_mapW hR).trans (RW_mapW hR').symm)
  rw [List.append_assoc] at hP hD
  generalize H1 = H at hP hS ⊢
  have hP : va_P (dC, dI) clB (Md ++ (o, .inl (ka 5, 1, .inr (.inl g))) :: Wd') H := hP
  have hD : va_D (fun q : Nat => s.heap.size ≤ q) (Md ++ (o, .inl (ka 5, 1, .inr (.inl g))) :: Wd') := hD
  refine lv_aload_n hx hb dL_law_226 rfl (lv_at hl 2 rfl) ?_
  refine lv_aload_n hx hb dL_law_227 rfl (lv_at hl 0 rfl) ?_
  refine lv_iload hx hb dL_law_228 (lv_at hl 4 rfl) ?_
  refine lv_iconst (v := 1) hx hb dL_law_230 (by decide) ?_
  refine lv_iadd hx hb dL_law_231 ?_
  refine lw_ld (i := 5 * k) (j := 1) hx hb hX hbl hbA hS rfl (by omega) (by omega) dL_law_232 ?_
  have hP2 := tk_commP hP
  have hD2 := tk_commD hD
  have hFc := tk_freeG (ws := (o, .inl (ka 5, 1, .inr (.inl g))) :: Wd') (wc := Md) hD2 hS hA
  refine va_calli (va_runV (As := [.int (xs (5 * k + 1))]) (rest := [.int r9]) ⟨hx, hb, hml, hown, hts2⟩ (hMc _) (cwV 1 hts2 (tw_V wi_617 wi_618 wi_619 wi_28 wi_620) rfl rfl rfl (by decide +kernel) ⟨by show frM + 1 ≤ 12; omega, by show 8 + (2 + 11) + loM ≤ 428; omega⟩) ⟨fun a U g mk q => ⟨q.1, q.2.1, tk_E.call q.2.2.1, q.2.2.2⟩, va_recv hK hP (ci := 4) (q0 := 0) rfl (app_0 hM0), fun U hU hW => ⟨rfl, by rw [hU], tk_E.warm hW hE, by rw [hU]; exact tk_lastP (ws := (o, .inl (ka 5, 1, .inr (.inl g))) :: Wd') hP2, (tk_lastD (ws := (o, .inl (ka 5, 1, .inr (.inl g))) :: Wd') hD2).weaken (fun _ _ _ _ => trivial)⟩⟩ rfl rfl hl.1 rfl (lv_room (Nat.le_of_ble_eq_true rfl)) dL_law_233 ⟨by show 47 + k + 0 ≤ 601024; omega, by show 111203 + 6 * k + 0 ≤ 7293034; omega⟩) hS (fun q _ h => hFc q h) hFc (fun r9 u9 t H1 locs ht hvm hw9 hB hz1 hk1 hS => ?_)
  subst hw9
  have hB1 : va_P (dC, dI) clB Md' H1 := by rw [← ht]; exact hB
  obtain ⟨hP, hD⟩ := tk_joinW (ws := (o, .inl (ka 5, 1, .inr (.inl g))) :: Wd') (wc := Md) hP2 hD2 hk1 hFc hB1 ((RW_mapM hR).trans (RW_mapM hR').symm)
  have hP := tk_commP hP
  have hD := tk_commD hD
  generalize H1 = H at hP hS ⊢
  refine lv_icmp_eq (tgt := 624) hx hb dL_law_236 (by decide) (fun c_1 => ?_) (fun c_1 => absurd rfl c_1)
  refine W.widen (k := 47 + (k + 1)) (n := 111203 + 6 * (k + 1)) (by omega) (by omega) ?_
  exact K _ (w + 1) _ _ _ _ _ _ (by omega) hR' hP hD hS hl

set_option maxHeartbeats 4000000 in
set_option maxRecDepth 100000 in
theorem lc_get {p : Program} {l : Launch} {e : Env} {s : State} {m : MethodId} {below : List Frame} {meth : Method} {c : Code} {dC : Nat → ClassId} {dI : Nat → Nat → Nat} {ka : Nat → ClassId} {sa : Nat → Nat} {b L : Nat} {xs : Nat → Int32} (hL : L ≤ 2560) (C0 : lw_At p s m meth c b L xs) (hst : l.stackTraces = false) (hE : tk_E dC dI ka s) (hXx : tk_X sa s) (hZz : tk_Z (fun q : Nat => s.heap.size ≤ q) s s.heap) (hNn : tk_N s) {h dr db lg fa : Nat} {fr fb : Nat → Nat} {h2 : Nat} {ad : Nat → Nat} {o : Nat} {k w : Nat} {mth : Int32} {g : Nat → Int64} {Wd Md : va_W} {H : Heap} {locs : List Loc} {ls : Array Slot} (hk : 5 * k + 5 ≤ L) (hw : w ≤ 12 * k) (hR : RW h dr db lg fa fr fb ka h2 ad mth k w Wd Md) (hP : va_P (dC, dI) clB (Md ++ (o, .inl (ka 5, 1, .inr (.inl g))) :: Wd) H) (hD : va_D (fun q : Nat => s.heap.size ≤ q) (Md ++ (o, .inl (ka 5, 1, .inr (.inl g))) :: Wd)) (hS : va_S (fun q : Nat => s.heap.size ≤ q) s.heap H locs) (hl : lv_has ls 7 [(0, .ref b), (1, .ref h), (2, .ref h2), (3, .ref o), (4, .int (nI (5 * k)))]) (K : ∀ (mth' : Int32) (w' : Nat) (g' : Nat → Int64) (Wd' Md' : va_W) (H : Heap) (locs : List Loc) (ls : Array Slot), w' ≤ 12 * (k + 1) → RW h dr db lg fa fr fb ka h2 ad mth' (k + 1) w' Wd' Md' → va_P (dC, dI) clB (Md' ++ (o, .inl (ka 5, 1, .inr (.inl g'))) :: Wd') H → va_D (fun q : Nat => s.heap.size ≤ q) (Md' ++ (o, .inl (ka 5, 1, .inr (.inl g'))) :: Wd') → va_S (fun q : Nat => s.heap.size ≤ q) s.heap H locs → lv_has ls 7 [(0, .ref b), (1, .ref h), (2, .ref h2), (3, .ref o), (4, .int (nI (5 * k)))] → W p l e room_1 s m #[Value.ref b] below meth c H locs (47 + (k + 1)) (111203 + 6 * (k + 1)) (lw_Z below #[Value.ref b] s) (F0 m 624 ls [])) : W p l e room_1 s m #[Value.ref b] below meth c H locs (47 + k) (111203 + 6 * k) (lw_Z below #[Value.ref b] s) (F0 m 241 ls []) := by
  obtain ⟨hx, hb, hr, hml, hown, hts, hX, hbl, hlocks, hgv⟩ := C0
  have hA : ∀ q : Nat, s.heap.size ≤ q → (fun q : Nat => s.heap.size ≤ q) q := fun _ h => h
  have hbA : ¬ (fun q : Nat => s.heap.size ≤ q) b := Nat.not_le.mpr hbl
  have hown : s.vm.findClass RL = some m.cls := hown
  have hK := hE.1
  have hts2 : ∀ w ∈ kL_pin :: lwg, w.before #[Value.ref b] s = true := fun w hw => by
    rcases List.mem_cons.mp hw with e | e
    · rw [e]; exact hts _ (lwg_in wi_214)
    · exact hts _ (lwg_in e)
  obtain ⟨fs, hW0⟩ := RW_W0 hR
  obtain ⟨fs2, hM0⟩ := RW_M0 hR
  obtain ⟨Md', r, hR', ⟨frM, loM, hfM, hlM, hMc⟩, ⟨frB, loB, hfB, hlB, hBc⟩⟩ := S_get l dC dI ka h dr db lg fa fr fb h2 ad mth k w Wd Md hR (by omega) (by omega) (xs (5 * k + 1)) (xs (5 * k + 2))
  refine lv_aload_n hx hb dL_law_241 rfl (lv_at hl 1 rfl) ?_
  refine lv_aload_n hx hb dL_law_242 rfl (lv_at hl 0 rfl) ?_
  refine lv_iload hx hb dL_law_243 (lv_at hl 4 rfl) ?_
  refine lv_iconst (v := 1) hx hb dL_law_245 (by decide) ?_
  refine lv_iadd hx hb dL_law_246 ?_
  refine lw_ld (i := 5 * k) (j := 1) hx hb hX hbl hbA hS rfl (by omega) (by omega) dL_law_247 ?_
  refine lv_aload_n hx hb dL_law_248 rfl (lv_at hl 0 rfl) ?_
  refine lv_iload hx hb dL_law_249 (lv_at hl 4 rfl) ?_
  refine lv_iconst (v := 2) hx hb dL_law_251 (by decide) ?_
  refine lv_iadd hx hb dL_law_252 ?_
  refine lw_ld (i := 5 * k) (j := 2) hx hb hX hbl hbA hS rfl (by omega) (by omega) dL_law_253 ?_
  have hP1 : va_P (dC, dI) clB ((Md ++ [(o, .inl (ka 5, 1, .inr (.inl g)))]) ++ Wd) H := by rw [List.append_assoc]; exact hP
  refine vp_callSi (va_Run.run (va_runV (As := [.int (xs (5 * k + 1)), .int (xs (5 * k + 2))]) (rest := []) ⟨hx, hb, hml, hown, hts2⟩ hBc (cwV 2 hts2 (tw_V wi_142 wi_143 wi_144 wi_24 wi_145) rfl rfl rfl (by decide +kernel) ⟨by show frB + 1 ≤ 12; omega, by show 8 + (3 + 11) + loB ≤ 428; omega⟩) ⟨fun a U g mk q => ⟨q.1, tk_E.call q.2.1, q.2.2⟩, va_recv hK hP (ci := 3) (q0 := Md.length + 1) rfl (app_1 hW0), fun U hU hW => ⟨rfl, tk_E.warm hW hE, by rw [hU]; exact tk_lastP (ws := (Md ++ [(o, .inl (ka 5, 1, .inr (.inl g)))])) hP1⟩⟩ rfl rfl hl.1 rfl (lv_room (Nat.le_of_ble_eq_true rfl)) dL_law_254 ⟨by show 47 + k + 0 ≤ 601024; omega, by show 111203 + 6 * k + 0 ≤ 7293034; omega⟩)) (fun r9 er9 => ?_)
  subst er9
  refine lv_aload_n hx hb dL_law_257 rfl (lv_at hl 2 rfl) ?_
  refine lv_aload_n hx hb dL_law_258 rfl (lv_at hl 0 rfl) ?_
  refine lv_iload hx hb dL_law_259 (lv_at hl 4 rfl) ?_
  refine lv_iconst (v := 1) hx hb dL_law_261 (by decide) ?_
  refine lv_iadd hx hb dL_law_262 ?_
  refine lw_ld (i := 5 * k) (j := 1) hx hb hX hbl hbA hS rfl (by omega) (by omega) dL_law_263 ?_
  refine lv_aload_n hx hb dL_law_264 rfl (lv_at hl 0 rfl) ?_
  refine lv_iload hx hb dL_law_265 (lv_at hl 4 rfl) ?_
  refine lv_iconst (v := 2) hx hb dL_law_267 (by decide) ?_
  refine lv_iadd hx hb dL_law_268 ?_
  refine lw_ld (i := 5 * k) (j := 2) hx hb hX hbl hbA hS rfl (by omega) (by omega) dL_law_269 ?_
  have hP2 := tk_commP hP
  have hD2 := tk_commD hD
  have hFc := tk_freeG (ws := (o, .inl (ka 5, 1, .inr (.inl g))) :: Wd) (wc := Md) hD2 hS hA
  refine va_calli (va_runV (As := [.int (xs (5 * k + 1)), .int (xs (5 * k + 2))]) (rest := [.int r9]) ⟨hx, hb, hml, hown, hts2⟩ (hMc _) (cwV 2 hts2 (tw_V wi_546 wi_547 wi_548 wi_28 wi_549) rfl rfl rfl (by decide +kernel) ⟨by show frM + 1 ≤ 12; omega, by show 8 + (3 + 11) + loM ≤ 428; omega⟩) ⟨fun a U g mk q => ⟨q.1, q.2.1, tk_E.call q.2.2.1, q.2.2.2⟩, va_recv hK hP (ci := 4) (q0 := 0) rfl (app_0 hM0), fun U hU hW => ⟨rfl, by rw [hU], tk_E.warm hW hE, by rw [hU]; exact tk_lastP (ws := (o, .inl (ka 5, 1, .inr (.inl g))) :: Wd) hP2, (tk_lastD (ws := (o, .inl (ka 5, 1, .inr (.inl g))) :: Wd) hD2).weaken (fun _ _ _ _ => trivial)⟩⟩ rfl rfl hl.1 rfl (lv_room (Nat.le_of_ble_eq_true rfl)) dL_law_270 ⟨by show 47 + k + 0 ≤ 601024; omega, by show 111203 + 6 * k + 0 ≤ 7293034; omega⟩) hS (fun q _ h => hFc q h) hFc (fun r9 u9 t H1 locs ht hvm hw9 hB hz1 hk1 hS => ?_)
  subst hw9
  have hB1 : va_P (dC, dI) clB Md' H1 := by rw [← ht]; exact hB
  obtain ⟨hP, hD⟩ := tk_joinW (ws := (o, .inl (ka 5, 1, .inr (.inl g))) :: Wd) (wc := Md) hP2 hD2 hk1 hFc hB1 ((RW_mapM hR).trans (RW_mapM hR').symm)
  have hP := tk_commP hP
  have hD := tk_commD hD
  generalize H1 = H at hP hS ⊢
  refine lv_icmp_eq (tgt := 624) hx hb dL_law_273 (by decide) (fun c_1 => ?_) (fun c_1 => absurd rfl c_1)
  refine W.widen (k := 47 + (k + 1)) (n := 111203 + 6 * (k + 1)) (by omega) (by omega) ?_
  exact K _ (w + 1) _ _ _ _ _ _ (by omega) hR' hP hD hS hl
