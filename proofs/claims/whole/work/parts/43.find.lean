theorem c_B_frameByHand2 (l : Launch) (dC : Nat → ClassId) (dI : Nat → Nat → Nat) (ka : Nat → ClassId) (sz : Nat) (h dr db lg fa : Nat) (fr fb : Nat → Nat) (pg pn us di : Nat → Int32) (bt : Nat → Nat → Int32) (dk : Nat → Int32) (lf wn rd en fl : Int32) (q : Nat) (f0 : Nat) (u1 : Nat → Int32) (hq0 : q < 12) (hHB : hbU pn 48 (us, q) = (u1, f0)) : Met l yB_frameByHand wB_frameByHand ({ frames := 1, cells := 0, slots := 0, locals := 20 }) (va_Pc [.ref h] (fun U => U.heap.size = sz ∧ tk_E dC dI ka U ∧ va_P (dC, dI) clB (dw h dr db lg fa fr fb ka pg pn us di bt dk lf wn rd en fl (nI q)) U.heap ∧ va_D (fun _ => True) (dw h dr db lg fa fr fb ka pg pn us di bt dk lf wn rd en fl (nI q)))) (va_Qi (fun (r : Int32) (_ : Unit) => r = nI f0) (fun _ t => va_P (dC, dI) clB (dw h dr db lg fa fr fb ka pg pn u1 di bt dk lf wn rd en fl (nI (nxt f0))) t.heap) (va_A (dw h dr db lg fa fr fb ka pg pn us di bt dk lf wn rd en fl (nI q)) sz)) 0 0 (va_A (dw h dr db lg fa fr fb ka pg pn us di bt dk lf wn rd en fl (nI q)) sz) := by
  have h9 := c_B_frameByHand l dC dI ka sz h dr db lg fa fr fb pg pn us di bt dk lf wn rd en fl q hq0
  rw [hHB] at h9
  exact h9

set_option maxHeartbeats 4000000 in
set_option maxRecDepth 100000 in
theorem c_B_findFrame_e (l : Launch) (dC : Nat → ClassId) (dI : Nat → Nat → Nat) (ka : Nat → ClassId) (sz : Nat) (h dr db lg fa : Nat) (fr fb : Nat → Nat) (pg pn us di : Nat → Int32) (bt : Nat → Nat → Int32) (dk : Nat → Int32) (lf wn rd en fl : Int32) (q : Nat) (f0 : Nat) (hf0 : f0 < 12) (hfw : fwR pg (-1) (nI f0)) : Met l yB_findFrame wB_findFrame ({ frames := 3, cells := 0, slots := 0, locals := 130 }) (va_Pc [.ref h] (fun U => U.heap.size = sz ∧ tk_E dC dI ka U ∧ va_P (dC, dI) clB (dw h dr db lg fa fr fb ka pg pn us di bt dk lf wn rd en fl (nI q)) U.heap ∧ va_D (fun _ => True) (dw h dr db lg fa fr fb ka pg pn us di bt dk lf wn rd en fl (nI q)))) (va_Qi (fun (r : Int32) (_ : Unit) => r = nI f0) (fun _ t => va_P (dC, dI) clB (dw h dr db lg fa fr fb ka pg pn us di bt dk lf wn rd en fl (nI q)) t.heap) (va_A (dw h dr db lg fa fr fb ka pg pn us di bt dk lf wn rd en fl (nI q)) sz)) 0 0 (va_A (dw h dr db lg fa fr fb ka pg pn us di bt dk lf wn rd en fl (nI q)) sz) := by
  refine Met.ofW (cc := cB_findFrame) (maxL := 2) (ret := (some .int)) (by decide) rfl ?_
  intro p e s m args below meth c s₁ B hml hv
  obtain ⟨rfl, hsz, hE, hP, hD0⟩ := hv
  have hx := B.exec
  have hb := B.bytes
  have hr := B.returns
  have hts := atoms_spec (ws := wB_findFrame) B.pre
  have hq : ∀ w ∈ lwg, w.before _ s = true := fun w h => hts w (List.mem_cons_of_mem _ h)
  have hown : s.vm.findClass RB = some m.cls := findClass_of_methodNamed B.named
  have hlocks := B.notSynchronized
  have hK := hE.1
  have hN := hE.2
  subst hsz
  have hD := hD0.self (sz := s.heap.size)
  generalize hAe : va_A (dw h dr db lg fa fr fb ka pg pn us di bt dk lf wn rd en fl (nI q)) s.heap.size = A at hD ⊢
  have hA : ∀ q : Nat, s.heap.size ≤ q → A q := fun q h => by rw [← hAe]; exact Or.inr h
  have hS : va_S A s.heap s.heap [] := va_S.rf
  have hDw := hD
  have hP : va_P (dC, dI) clB (dw h dr db lg fa fr fb ka pg pn us di bt dk lf wn rd en fl (nI q)) s.heap := hP
  have hl := lv_entry ([.ref h]) (n := 2) (Nat.le_of_ble_eq_true rfl)
  rw [lg_entry_eq]
  generalize (lg_sl ([.ref h]) ++ List.replicate (2 - (lg_sl ([.ref h])).length) Slot.unset).toArray = ls at hl ⊢
  have hl : lv_has ls 2 [(0, .ref h)] := hl
  refine lv_aload_n hx hb dB_findFrame_0 rfl (lv_at hl 0 rfl) ?_
  refine lv_iconst (v := (-1)) hx hb dB_findFrame_1 (by decide) ?_
  refine vp_callSi (va_Run.run (va_runV (As := [.int (-1)]) (rest := []) ⟨hx, hb, hml, hown, hts⟩ (c_B_frameWith l dC dI ka h dr db lg fa fr fb pg pn us di bt dk lf wn rd en fl (nI q) (-1) (nI f0) hfw) (cwV 1 hts (tw_V wi_291 wi_293 wi_2 wi_24 wi_294) rfl rfl rfl (by decide +kernel) ⟨Nat.le_of_ble_eq_true rfl, Nat.le_of_ble_eq_true rfl⟩) ⟨fun a U g mk q => ⟨q.1, tk_E.call q.2.1, q.2.2⟩, va_recv hK hP (ci := 3) (q0 := 0) rfl rfl, fun U hU hW => ⟨rfl, tk_E.warm hW hE, by rw [hU]; exact hP⟩⟩ rfl rfl hl.1 rfl (lv_room (Nat.le_of_ble_eq_true rfl)) dB_findFrame_2 ⟨Nat.zero_le _, Nat.zero_le _⟩)) (fun r_1 er_1 => ?_)
  subst er_1
  refine lv_istore_n (lv' := [(1, .int (nI f0)), (0, .ref h)]) hx hb dB_findFrame_5 rfl hl (by decide) rfl (fun ls hl => ?_)
  refine lv_iload_n hx hb dB_findFrame_6 rfl (lv_at hl 0 rfl) ?_
  refine lv_iconst (v := (-1)) hx hb dB_findFrame_7 (by decide) ?_
  refine lv_icmp_eq (tgt := 13) hx hb dB_findFrame_8 (by decide) (fun c_2 => ?_) (fun c_2 => ?_)
  · exact absurd (c_2 ▸ nI_pos (n := f0) (by omega)) (by decide)
  · refine lv_iload_n hx hb dB_findFrame_11 rfl (lv_at hl 0 rfl) ?_
    exact W.iret (v := (nI f0)) hx hb hr (fun t ht hW => ⟨⟨(nI f0), (), rfl, rfl, by show va_P _ _ _ t.heap; rw [ht]; exact hP⟩, hS.F ht⟩) hS.2.2 dB_findFrame_12

set_option maxHeartbeats 4000000 in
set_option maxRecDepth 100000 in
theorem c_B_findFrame_c (l : Launch) (dC : Nat → ClassId) (dI : Nat → Nat → Nat) (ka : Nat → ClassId) (sz : Nat) (h dr db lg fa : Nat) (fr fb : Nat → Nat) (pg pn us di : Nat → Int32) (bt : Nat → Nat → Int32) (dk : Nat → Int32) (lf wn rd en fl : Int32) (q : Nat) (f0 : Nat) (u1 : Nat → Int32) (hne : ∀ i, i < 12 → pg i ≠ -1) (hq0 : q < 12) (hHB : hbU pn 48 (us, q) = (u1, f0)) (hf0 : f0 < 12) (hd0 : di f0 = 0) : Met l yB_findFrame wB_findFrame ({ frames := 3, cells := 0, slots := 0, locals := 130 }) (va_Pc [.ref h] (fun U => U.heap.size = sz ∧ tk_E dC dI ka U ∧ va_P (dC, dI) clB (dw h dr db lg fa fr fb ka pg pn us di bt dk lf wn rd en fl (nI q)) U.heap ∧ va_D (fun _ => True) (dw h dr db lg fa fr fb ka pg pn us di bt dk lf wn rd en fl (nI q)))) (va_Qi (fun (r : Int32) (_ : Unit) => r = nI f0) (fun _ t => va_P (dC, dI) clB (dw h dr db lg fa fr fb ka pg pn u1 di bt dk lf wn rd en fl (nI (nxt f0))) t.heap) (va_A (dw h dr db lg fa fr fb ka pg pn us di bt dk lf wn rd en fl (nI q)) sz)) 0 0 (va_A (dw h dr db lg fa fr fb ka pg pn us di bt dk lf wn rd en fl (nI q)) sz) := by
  refine Met.ofW (cc := cB_findFrame) (maxL := 2) (ret := (some .int)) (by decide) rfl ?_
  intro p e s m args below meth c s₁ B hml hv
  obtain ⟨rfl, hsz, hE, hP, hD0⟩ := hv
  have hx := B.exec
  have hb := B.bytes
  have hr := B.returns
  have hts := atoms_spec (ws := wB_findFrame) B.pre
  have hq : ∀ w ∈ lwg, w.before _ s = true := fun w h => hts w (List.mem_cons_of_mem _ h)
  have hown : s.vm.findClass RB = some m.cls := findClass_of_methodNamed B.named
  have hlocks := B.notSynchronized
  have hK := hE.1
  have hN := hE.2
  subst hsz
  have hD := hD0.self (sz := s.heap.size)
  generalize hAe : va_A (dw h dr db lg fa fr fb ka pg pn us di bt dk lf wn rd en fl (nI q)) s.heap.size = A at hD ⊢
  have hA : ∀ q : Nat, s.heap.size ≤ q → A q := fun q h => by rw [← hAe]; exact Or.inr h
  have hS : va_S A s.heap s.heap [] := va_S.rf
  have hDw := hD
  have hP : va_P (dC, dI) clB (dw h dr db lg fa fr fb ka pg pn us di bt dk lf wn rd en fl (nI q)) s.heap := hP
  have hl := lv_entry ([.ref h]) (n := 2) (Nat.le_of_ble_eq_true rfl)
  rw [lg_entry_eq]
  generalize (lg_sl ([.ref h]) ++ List.replicate (2 - (lg_sl ([.ref h])).length) Slot.unset).toArray = ls at hl ⊢
  have hl : lv_has ls 2 [(0, .ref h)] := hl
  refine lv_aload_n hx hb dB_findFrame_0 rfl (lv_at hl 0 rfl) ?_
  refine lv_iconst (v := (-1)) hx hb dB_findFrame_1 (by decide) ?_
  refine vp_callSi (va_Run.run (va_runV (As := [.int (-1)]) (rest := []) ⟨hx, hb, hml, hown, hts⟩ (c_B_frameWith l dC dI ka h dr db lg fa fr fb pg pn us di bt dk lf wn rd en fl (nI q) (-1) (-1) (Or.inl ⟨rfl, hne⟩)) (cwV 1 hts (tw_V wi_291 wi_293 wi_2 wi_24 wi_294) rfl rfl rfl (by decide +kernel) ⟨Nat.le_of_ble_eq_true rfl, Nat.le_of_ble_eq_true rfl⟩) ⟨fun a U g mk q => ⟨q.1, tk_E.call q.2.1, q.2.2⟩, va_recv hK hP (ci := 3) (q0 := 0) rfl rfl, fun U hU hW => ⟨rfl, tk_E.warm hW hE, by rw [hU]; exact hP⟩⟩ rfl rfl hl.1 rfl (lv_room (Nat.le_of_ble_eq_true rfl)) dB_findFrame_2 ⟨Nat.zero_le _, Nat.zero_le _⟩)) (fun r_1 er_1 => ?_)
  subst er_1
  refine lv_istore_n (lv' := [(1, .int (-1)), (0, .ref h)]) hx hb dB_findFrame_5 rfl hl (by decide) rfl (fun ls hl => ?_)
  refine lv_iload_n hx hb dB_findFrame_6 rfl (lv_at hl 0 rfl) ?_
  refine lv_iconst (v := (-1)) hx hb dB_findFrame_7 (by decide) ?_
  refine lv_icmp_eq (tgt := 13) hx hb dB_findFrame_8 (by decide) (fun c_2 => ?_) (fun c_2 => ?_)
  · refine lv_aload_n hx hb dB_findFrame_13 rfl (lv_at hl 1 rfl) ?_
    have hFc := tk_freeW hD hS hA
    refine va_calli (va_runV (As := []) (rest := []) ⟨hx, hb, hml, hown, hts⟩ (c_B_frameByHand2 l dC dI ka _ h dr db lg fa fr fb pg pn us di bt dk lf wn rd en fl q f0 u1 hq0 hHB) (cwV 0 hts (tw_V wi_342 wi_344 wi_5 wi_24 wi_345) rfl rfl rfl (by decide +kernel) ⟨Nat.le_of_ble_eq_true rfl, Nat.le_of_ble_eq_true rfl⟩) ⟨fun a U g mk q => ⟨q.1, q.2.1, tk_E.call q.2.2.1, q.2.2.2⟩, va_recv hK hP (ci := 3) (q0 := 0) rfl rfl, fun U hU hW => ⟨rfl, by rw [hU], tk_E.warm hW hE, by rw [hU]; exact hP, hD.weaken (fun _ _ _ _ => trivial)⟩⟩ rfl rfl hl.1 rfl (lv_room (Nat.le_of_ble_eq_true rfl)) dB_findFrame_14 ⟨Nat.zero_le _, Nat.zero_le _⟩) hS (fun q _ h => hFc q h) hFc (fun r_4 u_3 t H1 locs ht hvm hw hB hz1 hk1 hS => ?_)
    have hB : va_P (dC, dI) clB (dw h dr db lg fa fr fb ka pg pn u1 di bt dk lf wn rd en fl (nI (nxt f0))) H1 := by rw [← ht]; exact hB
    obtain ⟨hP, hD⟩ := (⟨hB, dw_D hDw⟩ : va_P (dC, dI) clB (dw h dr db lg fa fr fb ka pg pn u1 di bt dk lf wn rd en fl (nI (nxt f0))) H1 ∧ va_D A (dw h dr db lg fa fr fb ka pg pn u1 di bt dk lf wn rd en fl (nI (nxt f0))))
    generalize H1 = H at hP hS ⊢
    have hP : va_P (dC, dI) clB (dw h dr db lg fa fr fb ka pg pn u1 di bt dk lf wn rd en fl (nI (nxt f0))) H := hP
    have hD : va_D A (dw h dr db lg fa fr fb ka pg pn u1 di bt dk lf wn rd en fl (nI (nxt f0))) := dw_D hDw
    subst hw
    refine lv_istore_n (lv' := [(1, .int (nI f0)), (0, .ref h)]) hx hb dB_findFrame_17 rfl hl (by decide) rfl (fun ls hl => ?_)
    refine lv_aload_n hx hb dB_findFrame_18 rfl (lv_at hl 1 rfl) ?_
    refine va_get (D := (dC, dI)) (ci := 3) (v := .ref fa) (C := RB) (T := TB) (N := 4) hx hb hts (inC inB) hown hK hP 0 rfl rfl 2 (by decide) (hq _ wi_116) (fun _ h9 => h9) rfl dB_findFrame_19 ?_
    refine lv_iload_n hx hb dB_findFrame_22 rfl (lv_at hl 0 rfl) ?_
    refine tk_aald (n := f0) (y := fr f0) hx hb hK hP 4 1 rfl rfl rfl hf0 (by decide) rfl dB_findFrame_23 ?_
    refine va_getN (D := (dC, dI)) (ci := 1) (v := .int (di f0)) (C := RF) (T := TF) (N := 5) hx hb hts (inC inF) hown hK hP (5 + f0) (dw_fr hf0) rfl 4 (by decide) (va_Nw.use rfl (hN _ ns_12)) (fun _ h9 => h9) rfl dB_findFrame_24 ?_
    refine lv_if_eq (tgt := 40) hx hb dB_findFrame_27 (by decide) (fun c_5 => ?_) (fun c_5 => ?_)
    · refine lv_iload_n hx hb dB_findFrame_40 rfl (lv_at hl 0 rfl) ?_
      exact W.iret (v := (nI f0)) hx hb hr (fun t ht hW => ⟨⟨(nI f0), (), rfl, rfl, by show va_P _ _ _ t.heap; rw [ht]; exact hP⟩, hS.F ht⟩) hS.2.2 dB_findFrame_41
    · exact absurd hd0 c_5
  · exact absurd c_2 (by decide)

set_option maxHeartbeats 4000000 in
set_option maxRecDepth 100000 in
theorem c_B_findFrame_d (l : Launch) (dC : Nat → ClassId) (dI : Nat → Nat → Nat) (ka : Nat → ClassId) (sz : Nat) (h dr db lg fa : Nat) (fr fb : Nat → Nat) (pg pn us di : Nat → Int32) (bt : Nat → Nat → Int32) (dk : Nat → Int32) (lf wn rd en fl : Int32) (q : Nat) (f0 np : Nat) (u1 : Nat → Int32) (hne : ∀ i, i < 12 → pg i ≠ -1) (hq0 : q < 12) (hHB : hbU pn 48 (us, q) = (u1, f0)) (hf0 : f0 < 12) (hd0 : ¬ di f0 = 0) (hpg : pg f0 = nI np) (hnp : np < 192) (hF : sb_Fit (bt f0)) (hok : ∀ z, z < 8 → ¬ lfA lf z = 0) : Met l yB_findFrame wB_findFrame ({ frames := 3, cells := 0, slots := 0, locals := 130 }) (va_Pc [.ref h] (fun U => U.heap.size = sz ∧ tk_E dC dI ka U ∧ va_P (dC, dI) clB (dw h dr db lg fa fr fb ka pg pn us di bt dk lf wn rd en fl (nI q)) U.heap ∧ va_D (fun _ => True) (dw h dr db lg fa fr fb ka pg pn us di bt dk lf wn rd en fl (nI q)))) (va_Qi (fun (r : Int32) (_ : Unit) => r = nI f0) (fun _ t => va_P (dC, dI) clB (dw h dr db lg fa fr fb ka pg pn u1 (upd di f0 0) (va_up bt f0 (psB (bt f0) (tb2 (bt f0) 0 + 1))) (wrD dk ((va_up bt f0 (psB (bt f0) (tb2 (bt f0) 0 + 1))) f0) np 8) (lfA lf 8) (wn + nI 8) rd (if en < (plB (bt f0)) then (plB (bt f0)) else en) (if en < (plB (bt f0)) then fl + 1 else fl) (nI (nxt f0))) t.heap) (va_A (dw h dr db lg fa fr fb ka pg pn us di bt dk lf wn rd en fl (nI q)) sz)) 0 0 (va_A (dw h dr db lg fa fr fb ka pg pn us di bt dk lf wn rd en fl (nI q)) sz) := by
  refine Met.ofW (cc := cB_findFrame) (maxL := 2) (ret := (some .int)) (by decide) rfl ?_
  intro p e s m args below meth c s₁ B hml hv
  obtain ⟨rfl, hsz, hE, hP, hD0⟩ := hv
  have hx := B.exec
  have hb := B.bytes
  have hr := B.returns
  have hts := atoms_spec (ws := wB_findFrame) B.pre
  have hq : ∀ w ∈ lwg, w.before _ s = true := fun w h => hts w (List.mem_cons_of_mem _ h)
  have hown : s.vm.findClass RB = some m.cls := findClass_of_methodNamed B.named
  have hlocks := B.notSynchronized
  have hK := hE.1
  have hN := hE.2
  subst hsz
  have hD := hD0.self (sz := s.heap.size)
  generalize hAe : va_A (dw h dr db lg fa fr fb ka pg pn us di bt dk lf wn rd en fl (nI q)) s.heap.size = A at hD ⊢
  have hA : ∀ q : Nat, s.heap.size ≤ q → A q := fun q h => by rw [← hAe]; exact Or.inr h
  have hS : va_S A s.heap s.heap [] := va_S.rf
  have hDw := hD
  have hP : va_P (dC, dI) clB (dw h dr db lg fa fr fb ka pg pn us di bt dk lf wn rd en fl (nI q)) s.heap := hP
  have hl := lv_entry ([.ref h]) (n := 2) (Nat.le_of_ble_eq_true rfl)
  rw [lg_entry_eq]
  generalize (lg_sl ([.ref h]) ++ List.replicate (2 - (lg_sl ([.ref h])).length) Slot.unset).toArray = ls at hl ⊢
  have hl : lv_has ls 2 [(0, .ref h)] := hl
  refine lv_aload_n hx hb dB_findFrame_0 rfl (lv_at hl 0 rfl) ?_
  refine lv_iconst (v := (-1)) hx hb dB_findFrame_1 (by decide) ?_
  refine vp_callSi (va_Run.run (va_runV (As := [.int (-1)]) (rest := []) ⟨hx, hb, hml, hown, hts⟩ (c_B_frameWith l dC dI ka h dr db lg fa fr fb pg pn us di bt dk lf wn rd en fl (nI q) (-1) (-1) (Or.inl ⟨rfl, hne⟩)) (cwV 1 hts (tw_V wi_291 wi_293 wi_2 wi_24 wi_294) rfl rfl rfl (by decide +kernel) ⟨Nat.le_of_ble_eq_true rfl, Nat.le_of_ble_eq_true rfl⟩) ⟨fun a U g mk q => ⟨q.1, tk_E.call q.2.1, q.2.2⟩, va_recv hK hP (ci := 3) (q0 := 0) rfl rfl, fun U hU hW => ⟨rfl, tk_E.warm hW hE, by rw [hU]; exact hP⟩⟩ rfl rfl hl.1 rfl (lv_room (Nat.le_of_ble_eq_true rfl)) dB_findFrame_2 ⟨Nat.zero_le _, Nat.zero_le _⟩)) (fun r_1 er_1 => ?_)
  subst er_1
  refine lv_istore_n (lv' := [(1, .int (-1)), (0, .ref h)]) hx hb dB_findFrame_5 rfl hl (by decide) rfl (fun ls hl => ?_)
  refine lv_iload_n hx hb dB_findFrame_6 rfl (lv_at hl 0 rfl) ?_
  refine lv_iconst (v := (-1)) hx hb dB_findFrame_7 (by decide) ?_
  refine lv_icmp_eq (tgt := 13) hx hb dB_findFrame_8 (by decide) (fun c_2 => ?_) (fun c_2 => ?_)
  · refine lv_aload_n hx hb dB_findFrame_13 rfl (lv_at hl 1 rfl) ?_
    have hFc := tk_freeW hD hS hA
    refine va_calli (va_runV (As := []) (rest := []) ⟨hx, hb, hml, hown, hts⟩ (c_B_frameByHand2 l dC dI ka _ h dr db lg fa fr fb pg pn us di bt dk lf wn rd en fl q f0 u1 hq0 hHB) (cwV 0 hts (tw_V wi_342 wi_344 wi_5 wi_24 wi_345) rfl rfl rfl (by decide +kernel) ⟨Nat.le_of_ble_eq_true rfl, Nat.le_of_ble_eq_true rfl⟩) ⟨fun a U g mk q => ⟨q.1, q.2.1, tk_E.call q.2.2.1, q.2.2.2⟩, va_recv hK hP (ci := 3) (q0 := 0) rfl rfl, fun U hU hW => ⟨rfl, by rw [hU], tk_E.warm hW hE, by rw [hU]; exact hP, hD.weaken (fun _ _ _ _ => trivial)⟩⟩ rfl rfl hl.1 rfl (lv_room (Nat.le_of_ble_eq_true rfl)) dB_findFrame_14 ⟨Nat.zero_le _, Nat.zero_le _⟩) hS (fun q _ h => hFc q h) hFc (fun r_4 u_3 t H1 locs ht hvm hw hB hz1 hk1 hS => ?_)
    have hB : va_P (dC, dI) clB (dw h dr db lg fa fr fb ka pg pn u1 di bt dk lf wn rd en fl (nI (nxt f0))) H1 := by rw [← ht]; exact hB
    obtain ⟨hP, hD⟩ := (⟨hB, dw_D hDw⟩ : va_P (dC, dI) clB (dw h dr db lg fa fr fb ka pg pn u1 di bt dk lf wn rd en fl (nI (nxt f0))) H1 ∧ va_D A (dw h dr db lg fa fr fb ka pg pn u1 di bt dk lf wn rd en fl (nI (nxt f0))))
    generalize H1 = H at hP hS ⊢
    have hP : va_P (dC, dI) clB (dw h dr db lg fa fr fb ka pg pn u1 di bt dk lf wn rd en fl (nI (nxt f0))) H := hP
    have hD : va_D A (dw h dr db lg fa fr fb ka pg pn u1 di bt dk lf wn rd en fl (nI (nxt f0))) := dw_D hDw
    subst hw
    refine lv_istore_n (lv' := [(1, .int (nI f0)), (0, .ref h)]) hx hb dB_findFrame_17 rfl hl (by decide) rfl (fun ls hl => ?_)
    refine lv_aload_n hx hb dB_findFrame_18 rfl (lv_at hl 1 rfl) ?_
    refine va_get (D := (dC, dI)) (ci := 3) (v := .ref fa) (C := RB) (T := TB) (N := 4) hx hb hts (inC inB) hown hK hP 0 rfl rfl 2 (by decide) (hq _ wi_116) (fun _ h9 => h9) rfl dB_findFrame_19 ?_
    refine lv_iload_n hx hb dB_findFrame_22 rfl (lv_at hl 0 rfl) ?_
    refine tk_aald (n := f0) (y := fr f0) hx hb hK hP 4 1 rfl rfl rfl hf0 (by decide) rfl dB_findFrame_23 ?_
    refine va_getN (D := (dC, dI)) (ci := 1) (v := .int (di f0)) (C := RF) (T := TF) (N := 5) hx hb hts (inC inF) hown hK hP (5 + f0) (dw_fr hf0) rfl 4 (by decide) (va_Nw.use rfl (hN _ ns_12)) (fun _ h9 => h9) rfl dB_findFrame_24 ?_
    refine lv_if_eq (tgt := 40) hx hb dB_findFrame_27 (by decide) (fun c_5 => ?_) (fun c_5 => ?_)
    · exact absurd c_5 hd0
    · refine lv_aload_n hx hb dB_findFrame_30 rfl (lv_at hl 1 rfl) ?_
      refine lv_aload_n hx hb dB_findFrame_31 rfl (lv_at hl 1 rfl) ?_
      refine va_get (D := (dC, dI)) (ci := 3) (v := .ref fa) (C := RB) (T := TB) (N := 4) hx hb hts (inC inB) hown hK hP 0 rfl rfl 2 (by decide) (hq _ wi_116) (fun _ h9 => h9) rfl dB_findFrame_32 ?_
      refine lv_iload_n hx hb dB_findFrame_35 rfl (lv_at hl 0 rfl) ?_
      refine tk_aald (n := f0) (y := fr f0) hx hb hK hP 4 1 rfl rfl rfl hf0 (by decide) rfl dB_findFrame_36 ?_
      have hFc := tk_freeW hD hS hA
      refine va_callv (va_runV (As := [.ref (fr f0)]) (rest := []) ⟨hx, hb, hml, hown, hts⟩ (c_B_writePageOf_ok l dC dI ka _ h dr db lg fa fr fb pg pn u1 di bt dk lf wn rd en fl (nI (nxt f0)) f0 np hf0 hpg hnp hF hok) (cwV 1 hts (tw_V wi_357 wi_359 wi_6 wi_24 wi_360) rfl rfl rfl (by decide +kernel) ⟨Nat.le_of_ble_eq_true rfl, Nat.le_of_ble_eq_true rfl⟩) ⟨fun a U g mk q => ⟨q.1, q.2.1, tk_E.call q.2.2.1, q.2.2.2⟩, va_recv hK hP (ci := 3) (q0 := 0) rfl rfl, fun U hU hW => ⟨rfl, by rw [hU], tk_E.warm hW hE, by rw [hU]; exact hP, hD.weaken (fun _ _ _ _ => trivial)⟩⟩ rfl rfl hl.1 rfl (lv_room (Nat.le_of_ble_eq_true rfl)) dB_findFrame_37 ⟨Nat.zero_le _, Nat.zero_le _⟩) hS (fun q _ h => hFc q h) hFc (fun u_6 t H1 locs ht hvm hw hB hz1 hk1 hS => ?_)
      have hB : va_P (dC, dI) clB (dw h dr db lg fa fr fb ka pg pn u1 (upd di f0 0) (va_up bt f0 (psB (bt f0) (tb2 (bt f0) 0 + 1))) (wrD dk ((va_up bt f0 (psB (bt f0) (tb2 (bt f0) 0 + 1))) f0) np 8) (lfA lf 8) (wn + nI 8) rd (if en < (plB (bt f0)) then (plB (bt f0)) else en) (if en < (plB (bt f0)) then fl + 1 else fl) (nI (nxt f0))) H1 := by rw [← ht]; exact hB
      obtain ⟨hP, hD⟩ := (⟨hB, dw_D hDw⟩ : va_P (dC, dI) clB (dw h dr db lg fa fr fb ka pg pn u1 (upd di f0 0) (va_up bt f0 (psB (bt f0) (tb2 (bt f0) 0 + 1))) (wrD dk ((va_up bt f0 (psB (bt f0) (tb2 (bt f0) 0 + 1))) f0) np 8) (lfA lf 8) (wn + nI 8) rd (if en < (plB (bt f0)) then (plB (bt f0)) else en) (if en < (plB (bt f0)) then fl + 1 else fl) (nI (nxt f0))) H1 ∧ va_D A (dw h dr db lg fa fr fb ka pg pn u1 (upd di f0 0) (va_up bt f0 (psB (bt f0) (tb2 (bt f0) 0 + 1))) (wrD dk ((va_up bt f0 (psB (bt f0) (tb2 (bt f0) 0 + 1))) f0) np 8) (lfA lf 8) (wn + nI 8) rd (if en < (plB (bt f0)) then (plB (bt f0)) else en) (if en < (plB (bt f0)) then fl + 1 else fl) (nI (nxt f0))))
      generalize H1 = H at hP hS ⊢
      have hP : va_P (dC, dI) clB (dw h dr db lg fa fr fb ka pg pn u1 (upd di f0 0) (va_up bt f0 (psB (bt f0) (tb2 (bt f0) 0 + 1))) (wrD dk ((va_up bt f0 (psB (bt f0) (tb2 (bt f0) 0 + 1))) f0) np 8) (lfA lf 8) (wn + nI 8) rd (if en < (plB (bt f0)) then (plB (bt f0)) else en) (if en < (plB (bt f0)) then fl + 1 else fl) (nI (nxt f0))) H := hP
      have hD : va_D A (dw h dr db lg fa fr fb ka pg pn u1 (upd di f0 0) (va_up bt f0 (psB (bt f0) (tb2 (bt f0) 0 + 1))) (wrD dk ((va_up bt f0 (psB (bt f0) (tb2 (bt f0) 0 + 1))) f0) np 8) (lfA lf 8) (wn + nI 8) rd (if en < (plB (bt f0)) then (plB (bt f0)) else en) (if en < (plB (bt f0)) then fl + 1 else fl) (nI (nxt f0))) := dw_D hDw
      refine lv_iload_n hx hb dB_findFrame_40 rfl (lv_at hl 0 rfl) ?_
      exact W.iret (v := (nI f0)) hx hb hr (fun t ht hW => ⟨⟨(nI f0), (), rfl, rfl, by show va_P _ _ _ t.heap; rw [ht]; exact hP⟩, hS.F ht⟩) hS.2.2 dB_findFrame_41
  · exact absurd c_2 (by decide)

set_option maxHeartbeats 4000000 in
set_option maxRecDepth 100000 in
theorem c_B_findFrame_x (l : Launch) (hst : l.stackTraces = false) (dC : Nat → ClassId) (dI : Nat → Nat → Nat) (ka : Nat → ClassId) (sa : Nat → Nat) (sz : Nat) (h dr db lg fa : Nat) (fr fb : Nat → Nat) (pg pn us di : Nat → Int32) (bt : Nat → Nat → Int32) (dk : Nat → Int32) (lf wn rd en fl : Int32) (q : Nat) (f0 np mm : Nat) (u1 : Nat → Int32) (hne : ∀ i, i < 12 → pg i ≠ -1) (hq0 : q < 12) (hHB : hbU pn 48 (us, q) = (u1, f0)) (hf0 : f0 < 12) (hd0 : ¬ di f0 = 0) (hpg : pg f0 = nI np) (hnp : np < 192) (hF : sb_Fit (bt f0)) (hm8 : mm < 8) (hnz : ∀ z, z < mm → ¬ lfA lf z = 0) (h0 : lfA lf mm = 0) : vx_Met l yB_findFrame wB_findFrame ({ frames := 7, cells := 1, slots := 6, locals := 106 }) (va_Pc [.ref h] (fun U => U.heap.size = sz ∧ tk_E dC dI ka U ∧ tk_X sa U ∧ tk_Z (va_A (dw h dr db lg fa fr fb ka pg pn us di bt dk lf wn rd en fl (nI q)) sz) U U.heap ∧ va_P (dC, dI) clB (dw h dr db lg fa fr fb ka pg pn us di bt dk lf wn rd en fl (nI q)) U.heap ∧ va_D (fun _ => True) (dw h dr db lg fa fr fb ka pg pn us di bt dk lf wn rd en fl (nI q)))) (va_Qi (fun (_ : Int32) (_ : Unit) => False) (fun _ _ => True) (va_A (dw h dr db lg fa fr fb ka pg pn us di bt dk lf wn rd en fl (nI q)) sz)) (vx_X (fun _ : Unit => True) (fun E _ t => E = xUOE ∧ va_P (dC, dI) clB (dw h dr db lg fa fr fb ka (dropF (-1) pg 12) (dropF 0 pn 12) (dropF 0 u1 12) (dropF 0 di 12) (va_up bt f0 (psB (bt f0) (tb2 (bt f0) 0 + 1))) (wrD dk ((va_up bt f0 (psB (bt f0) (tb2 (bt f0) 0 + 1))) f0) np mm) (-1) (wn + nI mm) rd (if en < (plB (bt f0)) then (plB (bt f0)) else en) (if en < (plB (bt f0)) then fl + 1 else fl) 0) t.heap) (va_A (dw h dr db lg fa fr fb ka pg pn us di bt dk lf wn rd en fl (nI q)) sz)) 1 6 (va_A (dw h dr db lg fa fr fb ka pg pn us di bt dk lf wn rd en fl (nI q)) sz) := by
  refine vx_ofW (cc := cB_findFrame) (maxL := 2) (ret := (some .int)) (by decide) rfl ?_
  intro p e s m args below meth c s₁ B hml hT hv
  obtain ⟨rfl, hsz, hE, hXx, hZz, hP, hD0⟩ := hv
  have hx := B.exec
  have hb := B.bytes
  have hr := B.returns
  have hts := atoms_spec (ws := wB_findFrame) B.pre
  have hq : ∀ w ∈ lwg, w.before _ s = true := fun w h => hts w (List.mem_cons_of_mem _ h)
  have hown : s.vm.findClass RB = some m.cls := findClass_of_methodNamed B.named
  have hlocks := B.notSynchronized
  have hK := hE.1
  have hN := hE.2
  subst hsz
  have hD := hD0.self (sz := s.heap.size)
  generalize hAe : va_A (dw h dr db lg fa fr fb ka pg pn us di bt dk lf wn rd en fl (nI q)) s.heap.size = A at hD hZz ⊢
  have hA : ∀ q : Nat, s.heap.size ≤ q → A q := fun q h => by rw [← hAe]; exact Or.inr h
  have hS : va_S A s.heap s.heap [] := va_S.rf
  have hDw := hD
  have hP : va_P (dC, dI) clB (dw h dr db lg fa fr fb ka pg pn us di bt dk lf wn rd en fl (nI q)) s.heap := hP
  have hl := lv_entry ([.ref h]) (n := 2) (Nat.le_of_ble_eq_true rfl)
  rw [lg_entry_eq]
  generalize (lg_sl ([.ref h]) ++ List.replicate (2 - (lg_sl ([.ref h])).length) Slot.unset).toArray = ls at hl ⊢
  have hl : lv_has ls 2 [(0, .ref h)] := hl
  refine lv_aload_n hx hb dB_findFrame_0 rfl (lv_at hl 0 rfl) ?_
  refine lv_iconst (v := (-1)) hx hb dB_findFrame_1 (by decide) ?_
  refine vp_callSi (va_Run.run (va_runV (As := [.int (-1)]) (rest := []) ⟨hx, hb, hml, hown, hts⟩ (c_B_frameWith l dC dI ka h dr db lg fa fr fb pg pn us di bt dk lf wn rd en fl (nI q) (-1) (-1) (Or.inl ⟨rfl, hne⟩)) (cwV 1 hts (tw_V wi_291 wi_293 wi_2 wi_24 wi_294) rfl rfl rfl (by decide +kernel) ⟨Nat.le_of_ble_eq_true rfl, Nat.le_of_ble_eq_true rfl⟩) ⟨fun a U g mk q => ⟨q.1, tk_E.call q.2.1, q.2.2⟩, va_recv hK hP (ci := 3) (q0 := 0) rfl rfl, fun U hU hW => ⟨rfl, tk_E.warm hW hE, by rw [hU]; exact hP⟩⟩ rfl rfl hl.1 rfl (lv_room (Nat.le_of_ble_eq_true rfl)) dB_findFrame_2 ⟨Nat.zero_le _, Nat.zero_le _⟩)) (fun r_1 er_1 => ?_)
  subst er_1
  refine lv_istore_n (lv' := [(1, .int (-1)), (0, .ref h)]) hx hb dB_findFrame_5 rfl hl (by decide) rfl (fun ls hl => ?_)
  refine lv_iload_n hx hb dB_findFrame_6 rfl (lv_at hl 0 rfl) ?_
  refine lv_iconst (v := (-1)) hx hb dB_findFrame_7 (by decide) ?_
  refine lv_icmp_eq (tgt := 13) hx hb dB_findFrame_8 (by decide) (fun c_2 => ?_) (fun c_2 => ?_)
  · refine lv_aload_n hx hb dB_findFrame_13 rfl (lv_at hl 1 rfl) ?_
    have hFc := tk_freeW hD hS hA
    refine va_calli (va_runV (As := []) (rest := []) ⟨hx, hb, hml, hown, hts⟩ (c_B_frameByHand2 l dC dI ka _ h dr db lg fa fr fb pg pn us di bt dk lf wn rd en fl q f0 u1 hq0 hHB) (cwV 0 hts (tw_V wi_342 wi_344 wi_5 wi_24 wi_345) rfl rfl rfl (by decide +kernel) ⟨Nat.le_of_ble_eq_true rfl, Nat.le_of_ble_eq_true rfl⟩) ⟨fun a U g mk q => ⟨q.1, q.2.1, tk_E.call q.2.2.1, q.2.2.2⟩, va_recv hK hP (ci := 3) (q0 := 0) rfl rfl, fun U hU hW => ⟨rfl, by rw [hU], tk_E.warm hW hE, by rw [hU]; exact hP, hD.weaken (fun _ _ _ _ => trivial)⟩⟩ rfl rfl hl.1 rfl (lv_room (Nat.le_of_ble_eq_true rfl)) dB_findFrame_14 ⟨Nat.zero_le _, Nat.zero_le _⟩) hS (fun q _ h => hFc q h) hFc (fun r_4 u_3 t H1 locs ht hvm hw hB hz1 hk1 hS => ?_)
    have hB : va_P (dC, dI) clB (dw h dr db lg fa fr fb ka pg pn u1 di bt dk lf wn rd en fl (nI (nxt f0))) H1 := by rw [← ht]; exact hB
    obtain ⟨hP, hD⟩ := (⟨hB, dw_D hDw⟩ : va_P (dC, dI) clB (dw h dr db lg fa fr fb ka pg pn u1 di bt dk lf wn rd en fl (nI (nxt f0))) H1 ∧ va_D A (dw h dr db lg fa fr fb ka pg pn u1 di bt dk lf wn rd en fl (nI (nxt f0))))
    generalize H1 = H at hP hS ⊢
    have hP : va_P (dC, dI) clB (dw h dr db lg fa fr fb ka pg pn u1 di bt dk lf wn rd en fl (nI (nxt f0))) H := hP
    have hD : va_D A (dw h dr db lg fa fr fb ka pg pn u1 di bt dk lf wn rd en fl (nI (nxt f0))) := dw_D hDw
    subst hw
    refine lv_istore_n (lv' := [(1, .int (nI f0)), (0, .ref h)]) hx hb dB_findFrame_17 rfl hl (by decide) rfl (fun ls hl => ?_)
    refine lv_aload_n hx hb dB_findFrame_18 rfl (lv_at hl 1 rfl) ?_
    refine va_get (D := (dC, dI)) (ci := 3) (v := .ref fa) (C := RB) (T := TB) (N := 4) hx hb hts (inC inB) hown hK hP 0 rfl rfl 2 (by decide) (hq _ wi_116) (fun _ h9 => h9) rfl dB_findFrame_19 ?_
    refine lv_iload_n hx hb dB_findFrame_22 rfl (lv_at hl 0 rfl) ?_
    refine tk_aald (n := f0) (y := fr f0) hx hb hK hP 4 1 rfl rfl rfl hf0 (by decide) rfl dB_findFrame_23 ?_
    refine va_getN (D := (dC, dI)) (ci := 1) (v := .int (di f0)) (C := RF) (T := TF) (N := 5) hx hb hts (inC inF) hown hK hP (5 + f0) (dw_fr hf0) rfl 4 (by decide) (va_Nw.use rfl (hN _ ns_12)) (fun _ h9 => h9) rfl dB_findFrame_24 ?_
    refine lv_if_eq (tgt := 40) hx hb dB_findFrame_27 (by decide) (fun c_5 => ?_) (fun c_5 => ?_)
    · exact absurd c_5 hd0
    · refine lv_aload_n hx hb dB_findFrame_30 rfl (lv_at hl 1 rfl) ?_
      refine lv_aload_n hx hb dB_findFrame_31 rfl (lv_at hl 1 rfl) ?_
      refine va_get (D := (dC, dI)) (ci := 3) (v := .ref fa) (C := RB) (T := TB) (N := 4) hx hb hts (inC inB) hown hK hP 0 rfl rfl 2 (by decide) (hq _ wi_116) (fun _ h9 => h9) rfl dB_findFrame_32 ?_
      refine lv_iload_n hx hb dB_findFrame_35 rfl (lv_at hl 0 rfl) ?_
      refine tk_aald (n := f0) (y := fr f0) hx hb hK hP 4 1 rfl rfl rfl hf0 (by decide) rfl dB_findFrame_36 ?_
      have hFc := tk_freeW hD hS hA
      refine vx_callv (vx_runV (As := [.ref (fr f0)]) (rest := []) ⟨hx, hb, hml, hown, hts⟩ (c_B_writePageOf_cut l hst dC dI ka sa _ h dr db lg fa fr fb pg pn u1 di bt dk lf wn rd en fl (nI (nxt f0)) f0 np mm hf0 hpg hnp hF hm8 hnz h0) (cwV 1 hts (tw_V wi_357 wi_359 wi_6 wi_24 wi_360) rfl rfl rfl (by decide +kernel) ⟨Nat.le_of_ble_eq_true rfl, Nat.le_of_ble_eq_true rfl⟩) ⟨fun a U g mk q => ⟨q.1, q.2.1, tk_E.call q.2.2.1, tk_X.call q.2.2.2.1, tk_Z.call q.2.2.2.2.1, q.2.2.2.2.2⟩, va_recv hK hP (ci := 3) (q0 := 0) rfl rfl, fun U hU hW => ⟨rfl, by rw [hU], tk_E.warm hW hE, tk_X.warm hW hXx, tk_Z.at hZz hS hU hW hFc, by rw [hU]; exact hP, hD.weaken (fun _ _ _ _ => trivial)⟩⟩ rfl rfl hl.1 rfl (lv_room (Nat.le_of_ble_eq_true rfl)) dB_findFrame_37 ⟨Nat.le_refl _, Nat.le_refl _⟩) hS (fun q _ h => hFc q h) hFc (fun q _ h => hFc q h) (fun E9 ce q9 u t H1 locs ht hvm hpx hBX hz1 hk1 hS hce hcv hcl => ?_) (fun u t H1 locs ht hvm hw hB hz1 hk1 hS => hw.elim)
      obtain ⟨rfl, hB⟩ := hBX
      exact vx_out (fun z hz => (hT z hz).elim) hlocks hce hcv hcl (fun t9 ht9 hvm9 => ⟨(), trivial, ⟨rfl, by show va_P _ _ _ t9.heap; rw [ht9.trans ht.symm]; exact hB⟩, hS.F ht9⟩) hS.2.2 (Nat.le_of_ble_eq_true rfl) (Nat.le_of_ble_eq_true rfl)
  · exact absurd c_2 (by decide)
