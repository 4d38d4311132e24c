/-- the charge behind z sectors -/
def lfA (lf : Int32) : Nat → Int32
  | 0 => lf
  | z + 1 => if lfA lf z = 0 then lfA lf z else if lfA lf z = -1 then lfA lf z else lfA lf z - 1
/-- the disk behind z sectors of page n -/
def wrD (dk g : Nat → Int32) (n : Nat) : Nat → Nat → Int32
  | 0 => dk
  | z + 1 => va_cpy g (wrD dk g n z) (z * 64) (n * 512 + z * 64) 64
theorem fit_psB {f : Nat → Int32} {x : Int32} (h : sb_Fit f) : sb_Fit (psB f x) := sb_fitU (sb_fitU (sb_fitU (sb_fitU h (pk_fb _)) (pk_fb _)) (pk_fb _)) (pk_fb _)
theorem wn_s (wn : Int32) (z : Nat) : wn + nI z + 1 = wn + nI (z + 1) := by rw [← nI_1, Int32.add_assoc]
theorem wn_0 (wn : Int32) : wn + nI 0 = wn := by rw [nI_0, Int32.add_zero]
section DW5
variable {h dr db lg fa : Nat} {fr fb : Nat → Nat} {ka : Nat → ClassId} {pg pn us di : Nat → Int32} {bt : Nat → Nat → Int32} {dk : Nat → Int32} {lf wn rd en fl hd : Int32}
theorem dw_set_fbn {i : Nat} (hi : i < 12) : (dw h dr db lg fa fr fb ka pg pn us di bt dk lf wn rd en fl hd).set (17 + i) (fb i, .inl (ka 0, 512, .inl (bt i))) = dw h dr db lg fa fr fb ka pg pn us di bt dk lf wn rd en fl hd := by
  rw [dw_set_fb hi, va_up_id]
end DW5

set_option maxHeartbeats 4000000 in
set_option maxRecDepth 100000 in
theorem c_B_writePageOf_ok (l : Launch) (dC : Nat → ClassId) (dI : Nat → Nat → Nat) (ka : Nat → ClassId) (sz : Nat) (h dr db lg fa : Nat) (fr fb : Nat → Nat) (pg pn us di : Nat → Int32) (bt : Nat → Nat → Int32) (dk : Nat → Int32) (lf wn rd en fl hd : Int32) (i np : Nat) (hi0 : i < 12) (hpg : pg i = nI np) (hnp : np < 192) (hF : sb_Fit (bt i)) (hok : ∀ z, z < 8 → ¬ lfA lf z = 0) : Met l yB_writePageOf wB_writePageOf ({ frames := 2, cells := 0, slots := 0, locals := 84 }) (va_Pc [.ref h, .ref (fr i)] (fun U => U.heap.size = sz ∧ tk_E dC dI ka U ∧ va_P (dC, dI) clB (dw h dr db lg fa fr fb ka pg pn us di bt dk lf wn rd en fl hd) U.heap ∧ va_D (fun _ => True) (dw h dr db lg fa fr fb ka pg pn us di bt dk lf wn rd en fl hd))) (va_Qv (fun _ : Unit => True) (fun _ t => va_P (dC, dI) clB (dw h dr db lg fa fr fb ka pg pn us (upd di i 0) (va_up bt i (psB (bt i) (tb2 (bt i) 0 + 1))) (wrD dk ((va_up bt i (psB (bt i) (tb2 (bt i) 0 + 1))) i) np 8) (lfA lf 8) (wn + nI 8) rd (if en < (plB (bt i)) then (plB (bt i)) else en) (if en < (plB (bt i)) then fl + 1 else fl) hd) t.heap) (va_A (dw h dr db lg fa fr fb ka pg pn us di bt dk lf wn rd en fl hd) sz)) 0 0 (va_A (dw h dr db lg fa fr fb ka pg pn us di bt dk lf wn rd en fl hd) sz) := by
  refine Met.ofW (cc := cB_writePageOf) (maxL := 3) (ret := none) (by decide) rfl ?_
  intro p e s m args below meth c s₁ B hml hv
  obtain ⟨rfl, hsz, hE, hP, hD0⟩ := hv
  have hx := B.exec
  have hb := B.bytes
  have hr := B.returns
  have hts := atoms_spec (ws := wB_writePageOf) B.pre
  have hq : ∀ w ∈ lwg, w.before _ s = true := fun w h => hts w (List.mem_cons_of_mem _ h)
  have hown : s.vm.findClass RB = some m.cls := findClass_of_methodNamed B.named
  have hlocks := B.notSynchronized
  have hK := hE.1
  have hN := hE.2
  subst hsz
  have hD := hD0.self (sz := s.heap.size)
  generalize hAe : va_A (dw h dr db lg fa fr fb ka pg pn us di bt dk lf wn rd en fl hd) s.heap.size = A at hD ⊢
  have hA : ∀ q : Nat, s.heap.size ≤ q → A q := fun q h => by rw [← hAe]; exact Or.inr h
  have hS : va_S A s.heap s.heap [] := va_S.rf
  have hDw := hD
  have hP : va_P (dC, dI) clB (dw h dr db lg fa fr fb ka pg pn us di bt dk lf wn rd en fl hd) s.heap := hP
  have hl := lv_entry ([.ref h, .ref (fr i)]) (n := 3) (Nat.le_of_ble_eq_true rfl)
  rw [lg_entry_eq]
  generalize (lg_sl ([.ref h, .ref (fr i)]) ++ List.replicate (3 - (lg_sl ([.ref h, .ref (fr i)])).length) Slot.unset).toArray = ls at hl ⊢
  have hl : lv_has ls 3 [(0, .ref h), (1, .ref (fr i))] := hl
  refine lv_aload_n hx hb dB_writePageOf_0 rfl (lv_at hl 0 rfl) ?_
  refine va_get (D := (dC, dI)) (ci := 3) (v := .ref lg) (C := RB) (T := TB) (N := 4) hx hb hts (inC inB) hown hK hP 0 rfl rfl 1 (by decide) (hq _ wi_115) (fun _ h9 => h9) rfl dB_writePageOf_1 ?_
  refine lv_aload_n hx hb dB_writePageOf_4 rfl (lv_at hl 1 rfl) ?_
  refine vp_callSi (va_Run.run (va_runV (As := []) (rest := [.ref lg]) ⟨hx, hb, hml, hown, hts⟩ (c_F_place l dC dI ka (fr i) (fb i) (pg i) (pn i) (us i) (di i) (bt i)) (cwV 0 hts (tw_V wi_157 wi_158 wi_159 wi_27 wi_160) rfl rfl rfl (by decide +kernel) ⟨Nat.le_of_ble_eq_true rfl, Nat.le_of_ble_eq_true rfl⟩) ⟨fun a U g mk q => ⟨q.1, tk_E.call q.2.1, q.2.2⟩, va_recv hK hP (ci := 1) (q0 := (5 + i)) rfl (dw_fr hi0), fun U hU hW => ⟨rfl, tk_E.warm hW hE, by rw [hU]; exact (tk_two hP (k := 5 + i) (k' := 17 + i) (dw_fr hi0) (dw_fb hi0))⟩⟩ rfl rfl hl.1 rfl (lv_room (Nat.le_of_ble_eq_true rfl)) dB_writePageOf_5 ⟨Nat.zero_le _, Nat.zero_le _⟩)) (fun r_1 er_1 => ?_)
  subst er_1
  have hFc := tk_free1 (k := 3) hD hS hA rfl
  refine va_callv (va_runV (As := [.int (plB (bt i))]) (rest := []) ⟨hx, hb, hml, hown, hts⟩ (c_G_reach l dC dI ka _ lg en fl (plB (bt i))) (cwV 1 hts (tw_V wi_361 wi_362 wi_363 wi_26 wi_364) rfl rfl rfl (by decide +kernel) ⟨Nat.le_of_ble_eq_true rfl, Nat.le_of_ble_eq_true rfl⟩) ⟨fun a U g mk q => ⟨q.1, q.2.1, tk_E.call q.2.2.1, q.2.2.2⟩, va_recv hK hP (ci := 2) (q0 := 3) rfl rfl, fun U hU hW => ⟨rfl, by rw [hU], tk_E.warm hW hE, by rw [hU]; exact (tk_one hP (k := 3) rfl), tk_done⟩⟩ rfl rfl hl.1 rfl (lv_room (Nat.le_of_ble_eq_true rfl)) dB_writePageOf_8 ⟨Nat.zero_le _, Nat.zero_le _⟩) hS (fun q _ h => hFc q h) hFc (fun u_2 t H1 locs ht hvm hw hB hz1 hk1 hS => ?_)
  have hB : va_P (dC, dI) clB [(lg, .inr (2, [.int (if en < (plB (bt i)) then (plB (bt i)) else en), .int (if en < (plB (bt i)) then fl + 1 else fl)]))] H1 := by rw [← ht]; exact hB
  obtain ⟨hP, hD⟩ := tk_join1 (k := 3) hP hD rfl hk1 hB
  generalize H1 = H at hP hS ⊢
  have hP : va_P (dC, dI) clB (dw h dr db lg fa fr fb ka pg pn us di bt dk lf wn rd (if en < (plB (bt i)) then (plB (bt i)) else en) (if en < (plB (bt i)) then fl + 1 else fl) hd) H := (show va_P _ _ _ H from hP)
  have hD : va_D A (dw h dr db lg fa fr fb ka pg pn us di bt dk lf wn rd (if en < (plB (bt i)) then (plB (bt i)) else en) (if en < (plB (bt i)) then fl + 1 else fl) hd) := dw_D hDw
  refine lv_aload_n hx hb dB_writePageOf_11 rfl (lv_at hl 1 rfl) ?_
  have hFc := tk_free2 (k := 5 + i) (k' := 17 + i) hD hS hA (dw_fr hi0) (dw_fb hi0)
  refine va_callv (va_runV (As := []) (rest := []) ⟨hx, hb, hml, hown, hts⟩ (c_F_raiseStamps l dC dI ka _ (fr i) (fb i) (pg i) (pn i) (us i) (di i) (bt i) ) (cwV 0 hts (tw_V wi_366 wi_367 wi_368 wi_27 wi_369) rfl rfl rfl (by decide +kernel) ⟨Nat.le_of_ble_eq_true rfl, Nat.le_of_ble_eq_true rfl⟩) ⟨fun a U g mk q => ⟨q.1, q.2.1, tk_E.call q.2.2.1, q.2.2.2⟩, va_recv hK hP (ci := 1) (q0 := (5 + i)) rfl (dw_fr hi0), fun U hU hW => ⟨rfl, by rw [hU], tk_E.warm hW hE, by rw [hU]; exact (tk_two hP (k := 5 + i) (k' := 17 + i) (dw_fr hi0) (dw_fb hi0)), (tk_dtwo hD (k := 5 + i) (k' := 17 + i) (dw_fr hi0) (dw_fb hi0) (by omega))⟩⟩ rfl rfl hl.1 rfl (lv_room (Nat.le_of_ble_eq_true rfl)) dB_writePageOf_12 ⟨Nat.zero_le _, Nat.zero_le _⟩) hS (fun q _ h => hFc q h) hFc (fun u_4 t H1 locs ht hvm hw hB hz1 hk1 hS => ?_)
  have hB : va_P (dC, dI) clB [((fr i), .inr (1, [.ref (fb i), .int (pg i), .int (pn i), .int (us i), .int (di i)])), ((fb i), .inl (ka 0, 512, .inl (psB (bt i) (tb2 (bt i) 0 + 1))))] H1 := by rw [← ht]; exact hB
  obtain ⟨hP, hD⟩ := tk_join2 (k := 5 + i) (k' := 17 + i) hP hD (dw_fr hi0) (dw_fb hi0) (by omega) hk1 hB
  generalize H1 = H at hP hS ⊢
  have hP : va_P (dC, dI) clB (dw h dr db lg fa fr fb ka pg pn us di (va_up bt i (psB (bt i) (tb2 (bt i) 0 + 1))) dk lf wn rd (if en < (plB (bt i)) then (plB (bt i)) else en) (if en < (plB (bt i)) then fl + 1 else fl) hd) H := (by rw [← dw_set_fb hi0, ← dw_set_n hi0]; exact hP)
  have hD : va_D A (dw h dr db lg fa fr fb ka pg pn us di (va_up bt i (psB (bt i) (tb2 (bt i) 0 + 1))) dk lf wn rd (if en < (plB (bt i)) then (plB (bt i)) else en) (if en < (plB (bt i)) then fl + 1 else fl) hd) := dw_D hDw
  refine lv_iconst (v := 0) hx hb dB_writePageOf_15 (by decide) ?_
  refine lv_istore_n (lv' := [(2, .int 0), (0, .ref h), (1, .ref (fr i))]) hx hb dB_writePageOf_16 rfl hl (by decide) rfl (fun ls hl => ?_)
  refine tk_loop 17 (fun (n : Nat) (z : Nat) H locs ls => (z ≤ 8) ∧ (n = 8 - z) ∧ va_P (dC, dI) clB (dw h dr db lg fa fr fb ka pg pn us di (va_up bt i (psB (bt i) (tb2 (bt i) 0 + 1))) (wrD dk ((va_up bt i (psB (bt i) (tb2 (bt i) 0 + 1))) i) np z) (lfA lf z) (wn + nI z) rd (if en < (plB (bt i)) then (plB (bt i)) else en) (if en < (plB (bt i)) then fl + 1 else fl) hd) H ∧ va_D A (dw h dr db lg fa fr fb ka pg pn us di (va_up bt i (psB (bt i) (tb2 (bt i) 0 + 1))) (wrD dk ((va_up bt i (psB (bt i) (tb2 (bt i) 0 + 1))) i) np z) (lfA lf z) (wn + nI z) rd (if en < (plB (bt i)) then (plB (bt i)) else en) (if en < (plB (bt i)) then fl + 1 else fl) hd) ∧ va_S A s.heap H locs ∧ lv_has ls 3 [(0, .ref h), (1, .ref (fr i)), (2, .int (nI z))]) ?_ 8 0 ⟨Nat.zero_le _, rfl, (by rw [wn_0]; exact hP), (dw_D hDw), hS, lv_sub hl [1, 2, 0] rfl⟩
  skip
  intro n z H locs ls hI ih
  obtain ⟨hi, hn, hP, hD, hS, hl⟩ := hI
  refine lv_iload_n hx hb dB_writePageOf_17 rfl (lv_at hl 2 rfl) ?_
  refine lv_bipush (v := 8) hx hb dB_writePageOf_18 (by decide) ?_
  refine lv_icmp_ge (tgt := 62) hx hb dB_writePageOf_20 (by decide) (fun c_6 => ?_) (fun c_6 => ?_)
  · have h8 : z = 8 := by have := (nI_leI (a := 8) (b := z) (by decide) (by omega)).mp c_6; omega
    refine lv_aload_n hx hb dB_writePageOf_62 rfl (lv_at hl 1 rfl) ?_
    refine lv_iconst (v := 0) hx hb dB_writePageOf_63 (by decide) ?_
    refine va_putN (D := (dC, dI)) (ci := 1) (v := .int 0) (ty := .boolean) (C := RF) (T := TF) (N := 5) hx hb hts (inC inF) tyF tyF_ok nmF hown hK hP hD hS (5 + i) (dw_fr hi0) rfl 4 (by decide) (va_Nw.use rfl (hN _ ns_12)) (fun _ h9 => h9) rfl (by decide +kernel) rfl rfl (Nat.le_of_ble_eq_true rfl) dB_writePageOf_64 (fun H locs hP hD hS => ?_)
    have hP : va_P (dC, dI) clB (dw h dr db lg fa fr fb ka pg pn us (upd di i 0) (va_up bt i (psB (bt i) (tb2 (bt i) 0 + 1))) (wrD dk ((va_up bt i (psB (bt i) (tb2 (bt i) 0 + 1))) i) np z) (lfA lf z) (wn + nI z) rd (if en < (plB (bt i)) then (plB (bt i)) else en) (if en < (plB (bt i)) then fl + 1 else fl) hd) H := (by rw [← dw_set_d hi0]; exact hP)
    have hD : va_D A (dw h dr db lg fa fr fb ka pg pn us (upd di i 0) (va_up bt i (psB (bt i) (tb2 (bt i) 0 + 1))) (wrD dk ((va_up bt i (psB (bt i) (tb2 (bt i) 0 + 1))) i) np z) (lfA lf z) (wn + nI z) rd (if en < (plB (bt i)) then (plB (bt i)) else en) (if en < (plB (bt i)) then fl + 1 else fl) hd) := dw_D hDw
    exact W.vret hx hb hr (fun t ht hW => ⟨⟨(), rfl, trivial, by show va_P _ _ _ t.heap; rw [ht]; exact (h8 ▸ hP)⟩, hS.F ht⟩) hS.2.2 dB_writePageOf_67
  · have hz8 : z < 8 := by have := mt (nI_leI (a := 8) (b := z) (by decide) (by omega)).mpr c_6; omega
    refine lv_aload_n hx hb dB_writePageOf_23 rfl (lv_at hl 0 rfl) ?_
    refine va_get (D := (dC, dI)) (ci := 3) (v := .ref dr) (C := RB) (T := TB) (N := 4) hx hb hts (inC inB) hown hK hP 0 rfl rfl 0 (by decide) (hq _ wi_114) (fun _ h9 => h9) rfl dB_writePageOf_24 ?_
    refine lv_aload_n hx hb dB_writePageOf_27 rfl (lv_at hl 1 rfl) ?_
    refine va_getN (D := (dC, dI)) (ci := 1) (v := .int (pg i)) (C := RF) (T := TF) (N := 5) hx hb hts (inC inF) hown hK hP (5 + i) (dw_fr hi0) rfl 1 (by decide) (va_Nw.use rfl (hN _ ns_9)) (fun _ h9 => h9) rfl dB_writePageOf_28 ?_
    refine lv_iload_n hx hb dB_writePageOf_31 rfl (lv_at hl 2 rfl) ?_
    refine lv_aload_n hx hb dB_writePageOf_32 rfl (lv_at hl 1 rfl) ?_
    refine va_getN (D := (dC, dI)) (ci := 1) (v := .ref (fb i)) (C := RF) (T := TF) (N := 5) hx hb hts (inC inF) hown hK hP (5 + i) (dw_fr hi0) rfl 0 (by decide) (va_Nw.use rfl (hN _ ns_8)) (fun _ h9 => h9) rfl dB_writePageOf_33 ?_
    have hFc := tk_free3 (k := 1) (k' := 2) (k2 := 17 + i) hD hS hA rfl rfl (dw_fb hi0)
    refine va_calli (va_runV (As := [.int (pg i), .int (nI z), .ref (fb i)]) (rest := []) ⟨hx, hb, hml, hown, hts⟩ (c_D_writeSector l dC dI ka _ dr db (fb i) (lfA lf z) (wn + nI z) rd (wrD dk ((va_up bt i (psB (bt i) (tb2 (bt i) 0 + 1))) i) np z) ((va_up bt i (psB (bt i) (tb2 (bt i) 0 + 1))) i) (pg i) (nI z) np z hpg hnp rfl hz8 (by rw [va_up_self]; exact fit_psB hF)) (cwV 3 hts (tw_V wi_374 wi_375 wi_376 wi_25 wi_377) rfl rfl rfl (by decide +kernel) ⟨Nat.le_of_ble_eq_true rfl, Nat.le_of_ble_eq_true rfl⟩) ⟨fun a U g mk q => ⟨q.1, q.2.1, tk_E.call q.2.2.1, q.2.2.2⟩, va_recv hK hP (ci := 0) (q0 := 1) rfl rfl, fun U hU hW => ⟨rfl, by rw [hU], tk_E.warm hW hE, by rw [hU]; exact (tk_three hP (k := 1) (k' := 2) (k2 := 17 + i) rfl rfl (dw_fb hi0)), (tk_dthree hD (k := 1) (k' := 2) (k2 := 17 + i) rfl rfl (dw_fb hi0) (by omega) (by omega) (by omega))⟩⟩ rfl rfl hl.1 rfl (lv_room (Nat.le_of_ble_eq_true rfl)) dB_writePageOf_36 ⟨Nat.zero_le _, Nat.zero_le _⟩) hS (fun q _ h => hFc q h) hFc (fun r_8 u_7 t H1 locs ht hvm hw hB hz1 hk1 hS => ?_)
    have hB : va_P (dC, dI) clB [(dr, .inr (0, [.ref db, .int (if (lfA lf z) = 0 then (lfA lf z) else if (lfA lf z) = -1 then (lfA lf z) else (lfA lf z) - 1), .int (if (lfA lf z) = 0 then (wn + nI z) else (wn + nI z) + 1), .int rd])), (db, .inl (ka 0, 98304, .inl (if (lfA lf z) = 0 then (wrD dk ((va_up bt i (psB (bt i) (tb2 (bt i) 0 + 1))) i) np z) else va_cpy ((va_up bt i (psB (bt i) (tb2 (bt i) 0 + 1))) i) (wrD dk ((va_up bt i (psB (bt i) (tb2 (bt i) 0 + 1))) i) np z) (z * 64) (np * 512 + z * 64) 64))), ((fb i), .inl (ka 0, 512, .inl ((va_up bt i (psB (bt i) (tb2 (bt i) 0 + 1))) i)))] H1 := by rw [← ht]; exact hB
    obtain ⟨hP, hD⟩ := tk_join3 (k := 1) (k' := 2) (k2 := 17 + i) hP hD rfl rfl (dw_fb hi0) (by omega) (by omega) (by omega) hk1 hB
    generalize H1 = H at hP hS ⊢
    have hP : va_P (dC, dI) clB (dw h dr db lg fa fr fb ka pg pn us di (va_up bt i (psB (bt i) (tb2 (bt i) 0 + 1))) (if (lfA lf z) = 0 then (wrD dk ((va_up bt i (psB (bt i) (tb2 (bt i) 0 + 1))) i) np z) else va_cpy ((va_up bt i (psB (bt i) (tb2 (bt i) 0 + 1))) i) (wrD dk ((va_up bt i (psB (bt i) (tb2 (bt i) 0 + 1))) i) np z) (z * 64) (np * 512 + z * 64) 64) (if (lfA lf z) = 0 then (lfA lf z) else if (lfA lf z) = -1 then (lfA lf z) else (lfA lf z) - 1) (if (lfA lf z) = 0 then (wn + nI z) else (wn + nI z) + 1) rd (if en < (plB (bt i)) then (plB (bt i)) else en) (if en < (plB (bt i)) then fl + 1 else fl) hd) H := (by rw [← dw_set_fbn hi0]; exact hP)
    have hD : va_D A (dw h dr db lg fa fr fb ka pg pn us di (va_up bt i (psB (bt i) (tb2 (bt i) 0 + 1))) (if (lfA lf z) = 0 then (wrD dk ((va_up bt i (psB (bt i) (tb2 (bt i) 0 + 1))) i) np z) else va_cpy ((va_up bt i (psB (bt i) (tb2 (bt i) 0 + 1))) i) (wrD dk ((va_up bt i (psB (bt i) (tb2 (bt i) 0 + 1))) i) np z) (z * 64) (np * 512 + z * 64) 64) (if (lfA lf z) = 0 then (lfA lf z) else if (lfA lf z) = -1 then (lfA lf z) else (lfA lf z) - 1) (if (lfA lf z) = 0 then (wn + nI z) else (wn + nI z) + 1) rd (if en < (plB (bt i)) then (plB (bt i)) else en) (if en < (plB (bt i)) then fl + 1 else fl) hd) := dw_D hDw
    replace hw := hw.trans (if_neg (hok z hz8))
    subst hw
    refine lv_if_ne (tgt := 56) hx hb dB_writePageOf_39 (by decide) (fun c_9 => ?_) (fun c_9 => ?_)
    · refine lv_iinc (v := ((nI z) + 1)) (lv' := [(2, .int ((nI z) + 1)), (0, .ref h), (1, .ref (fr i))]) hx hb dB_writePageOf_56 hl (k := 2) rfl rfl (by decide) rfl (fun ls hl => ?_)
      refine lv_goto (tgt := 17) hx hb dB_writePageOf_59 (by decide) ?_
      have e1 : (if (lfA lf z) = 0 then (wn + nI z) else (wn + nI z) + 1) = wn + nI (z + 1) := by rw [if_neg (hok z hz8), wn_s]
      have e2 : (if (lfA lf z) = 0 then (wrD dk ((va_up bt i (psB (bt i) (tb2 (bt i) 0 + 1))) i) np z) else va_cpy ((va_up bt i (psB (bt i) (tb2 (bt i) 0 + 1))) i) (wrD dk ((va_up bt i (psB (bt i) (tb2 (bt i) 0 + 1))) i) np z) (z * 64) (np * 512 + z * 64) 64) = wrD dk ((va_up bt i (psB (bt i) (tb2 (bt i) 0 + 1))) i) np (z + 1) := if_neg (hok z hz8)
      rw [e1, e2] at hP
      exact ih (n - 1) (z + 1) _ _ _ (by omega) ⟨by omega, by omega, hP, (dw_D hDw), hS, lv_sub hl [1, 2, 0] (by rw [← nI_1]; rfl)⟩
    · exact absurd c_9 (by decide)
