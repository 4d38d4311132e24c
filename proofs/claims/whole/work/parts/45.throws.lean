set_option maxHeartbeats 4000000 in
set_option maxRecDepth 100000 in
theorem c_B_pin_p0 (l : Launch) (hst : l.stackTraces = false) (dC : Nat → ClassId) (dI : Nat → Nat → Nat) (ka : Nat → ClassId) (sa : Nat → Nat) (sz : Nat) (h dr db lg fa : Nat) (fr fb : Nat → Nat) (pg pn us di : Nat → Int32) (bt : Nat → Nat → Int32) (dk : Nat → Int32) (lf wn rd en fl hd : Int32) (x : Int32) (hx0 : x < 0 ∨ nI 192 ≤ x) : vx_Met l yB_pin wB_pin ({ frames := 6, cells := 1, slots := 6, locals := 82 }) (va_Pc [.ref h, .int x] (fun U => U.heap.size = sz ∧ tk_E dC dI ka U ∧ tk_X sa U ∧ tk_Z (va_A (dw h dr db lg fa fr fb ka pg pn us di bt dk lf wn rd en fl hd) sz) U U.heap ∧ va_P (dC, dI) clB (dw h dr db lg fa fr fb ka pg pn us di bt dk lf wn rd en fl hd) U.heap ∧ va_D (fun _ => True) (dw h dr db lg fa fr fb ka pg pn us di bt dk lf wn rd en fl hd))) (va_Qi (fun (_ : Int32) (_ : Unit) => False) (fun _ _ => True) (va_A (dw h dr db lg fa fr fb ka pg pn us di bt dk lf wn rd en fl hd) sz)) (vx_X (fun _ : Unit => True) (fun E _ t => E = xIAE ∧ va_P (dC, dI) clB (dw h dr db lg fa fr fb ka pg pn us di bt dk lf wn rd en fl hd) t.heap) (va_A (dw h dr db lg fa fr fb ka pg pn us di bt dk lf wn rd en fl hd) sz)) 1 6 (va_A (dw h dr db lg fa fr fb ka pg pn us di bt dk lf wn rd en fl hd) sz) := by
  refine vx_ofW (cc := cB_pin) (maxL := 4) (ret := (some .int)) (by decide) rfl ?_
  intro p e s m args below meth c s₁ B hml hT hv
  obtain ⟨rfl, hsz, hE, hXx, hZz, hP, hD0⟩ := hv
  have hx := B.exec
  have hb := B.bytes
  have hr := B.returns
  have hts := atoms_spec (ws := wB_pin) B.pre
  have hq : ∀ w ∈ lwg, w.before _ s = true := fun w h => hts w (List.mem_cons_of_mem _ h)
  have hown : s.vm.findClass RB = some m.cls := findClass_of_methodNamed B.named
  have hlocks := B.notSynchronized
  have hK := hE.1
  have hN := hE.2
  subst hsz
  have hD := hD0.self (sz := s.heap.size)
  generalize hAe : va_A (dw h dr db lg fa fr fb ka pg pn us di bt dk lf wn rd en fl hd) s.heap.size = A at hD hZz ⊢
  have hA : ∀ q : Nat, s.heap.size ≤ q → A q := fun q h => by rw [← hAe]; exact Or.inr h
  have hS : va_S A s.heap s.heap [] := va_S.rf
  have hDw := hD
  have hP : va_P (dC, dI) clB (dw h dr db lg fa fr fb ka pg pn us di bt dk lf wn rd en fl hd) s.heap := hP
  have hl := lv_entry ([.ref h, .int x]) (n := 4) (Nat.le_of_ble_eq_true rfl)
  rw [lg_entry_eq]
  generalize (lg_sl ([.ref h, .int x]) ++ List.replicate (4 - (lg_sl ([.ref h, .int x])).length) Slot.unset).toArray = ls at hl ⊢
  have hl : lv_has ls 4 [(0, .ref h), (1, .int x)] := hl
  refine lv_iload_n hx hb dB_pin_0 rfl (lv_at hl 1 rfl) ?_
  refine vp_callSi (va_Run.run (va_runS (As := [.int x]) (rest := []) ⟨hx, hb, hml, hown, hts⟩ (c_B_isPage l dC dI ka x) (cwS 1 hts (tw_S wi_184 wi_185 wi_24 wi_186) rfl rfl rfl (by decide +kernel) ⟨Nat.le_of_ble_eq_true rfl, Nat.le_of_ble_eq_true rfl⟩) ⟨fun a U g mk q => ⟨q.1, tk_E.call q.2.1, q.2.2⟩, fun U hU hW => ⟨rfl, tk_E.warm hW hE, by rw [hU]; exact (fun k q h => by simp at h)⟩⟩ rfl rfl hl.1 rfl (lv_room (Nat.le_of_ble_eq_true rfl)) dB_pin_1 ⟨Nat.zero_le _, Nat.zero_le _⟩)) (fun r_1 er_1 => ?_)
  replace er_1 := er_1.trans (tk_is0 (N := 192) hx0)
  subst er_1
  refine lv_if_ne (tgt := 17) hx hb dB_pin_4 (by decide) (fun c_2 => ?_) (fun c_2 => ?_)
  · exact absurd c_2 (by decide)
  · refine vx_throwS (names := xUp) (text := "there is no such page") hx hb hst hown (by decide +kernel) (by decide +kernel) (hq _ wi_223) (hq _ wi_32) (hXx.2 0 _ rfl) (tk_at xg_IAE xb_IAE hq hXx.1) xo_IAE hZz.1 hZz.2 hS (hl.1.trans hml.symm) dB_pin_7 dB_pin_10 dB_pin_11 dB_pin_13 dB_pin_16 (fun z hz => (hT z hz).elim) (Nat.le_of_ble_eq_true rfl) (Nat.le_of_ble_eq_true rfl) (Nat.le_of_ble_eq_true rfl) (Nat.le_of_ble_eq_true rfl) hlocks (fun t hvm9 hz9 hk9 => ⟨(), trivial, ⟨rfl, tk_keptP hP hk9⟩, tk_keptF hS hz9 hk9⟩) hS.2.2 (Nat.le_of_ble_eq_true rfl) (Nat.le_of_ble_eq_true rfl)

set_option maxHeartbeats 4000000 in
set_option maxRecDepth 100000 in
theorem c_B_pin_a0 (l : Launch) (hst : l.stackTraces = false) (dC : Nat → ClassId) (dI : Nat → Nat → Nat) (ka : Nat → ClassId) (sa : Nat → Nat) (sz : Nat) (h dr db lg fa : Nat) (fr fb : Nat → Nat) (pg pn us di : Nat → Int32) (bt : Nat → Nat → Int32) (dk : Nat → Int32) (lf wn rd en fl hd : Int32) (x : Int32) (n : Nat) (ex : x = nI n) (hn : n < 192) (hno : ∀ i, i < 12 → pg i ≠ x) (hap : ahR pn 1) : vx_Met l yB_pin wB_pin ({ frames := 6, cells := 1, slots := 6, locals := 82 }) (va_Pc [.ref h, .int x] (fun U => U.heap.size = sz ∧ tk_E dC dI ka U ∧ tk_X sa U ∧ tk_Z (va_A (dw h dr db lg fa fr fb ka pg pn us di bt dk lf wn rd en fl hd) sz) U U.heap ∧ va_P (dC, dI) clB (dw h dr db lg fa fr fb ka pg pn us di bt dk lf wn rd en fl hd) U.heap ∧ va_D (fun _ => True) (dw h dr db lg fa fr fb ka pg pn us di bt dk lf wn rd en fl hd))) (va_Qi (fun (_ : Int32) (_ : Unit) => False) (fun _ _ => True) (va_A (dw h dr db lg fa fr fb ka pg pn us di bt dk lf wn rd en fl hd) sz)) (vx_X (fun _ : Unit => True) (fun E _ t => E = xISE ∧ va_P (dC, dI) clB (dw h dr db lg fa fr fb ka pg pn us di bt dk lf wn rd en fl hd) t.heap) (va_A (dw h dr db lg fa fr fb ka pg pn us di bt dk lf wn rd en fl hd) sz)) 1 6 (va_A (dw h dr db lg fa fr fb ka pg pn us di bt dk lf wn rd en fl hd) sz) := by
  refine vx_ofW (cc := cB_pin) (maxL := 4) (ret := (some .int)) (by decide) rfl ?_
  intro p e s m args below meth c s₁ B hml hT hv
  obtain ⟨rfl, hsz, hE, hXx, hZz, hP, hD0⟩ := hv
  have hx := B.exec
  have hb := B.bytes
  have hr := B.returns
  have hts := atoms_spec (ws := wB_pin) B.pre
  have hq : ∀ w ∈ lwg, w.before _ s = true := fun w h => hts w (List.mem_cons_of_mem _ h)
  have hown : s.vm.findClass RB = some m.cls := findClass_of_methodNamed B.named
  have hlocks := B.notSynchronized
  have hK := hE.1
  have hN := hE.2
  subst hsz
  have hD := hD0.self (sz := s.heap.size)
  generalize hAe : va_A (dw h dr db lg fa fr fb ka pg pn us di bt dk lf wn rd en fl hd) s.heap.size = A at hD hZz ⊢
  have hA : ∀ q : Nat, s.heap.size ≤ q → A q := fun q h => by rw [← hAe]; exact Or.inr h
  have hS : va_S A s.heap s.heap [] := va_S.rf
  have hDw := hD
  have hP : va_P (dC, dI) clB (dw h dr db lg fa fr fb ka pg pn us di bt dk lf wn rd en fl hd) s.heap := hP
  have hl := lv_entry ([.ref h, .int x]) (n := 4) (Nat.le_of_ble_eq_true rfl)
  rw [lg_entry_eq]
  generalize (lg_sl ([.ref h, .int x]) ++ List.replicate (4 - (lg_sl ([.ref h, .int x])).length) Slot.unset).toArray = ls at hl ⊢
  have hl : lv_has ls 4 [(0, .ref h), (1, .int x)] := hl
  refine lv_iload_n hx hb dB_pin_0 rfl (lv_at hl 1 rfl) ?_
  refine vp_callSi (va_Run.run (va_runS (As := [.int x]) (rest := []) ⟨hx, hb, hml, hown, hts⟩ (c_B_isPage l dC dI ka x) (cwS 1 hts (tw_S wi_184 wi_185 wi_24 wi_186) rfl rfl rfl (by decide +kernel) ⟨Nat.le_of_ble_eq_true rfl, Nat.le_of_ble_eq_true rfl⟩) ⟨fun a U g mk q => ⟨q.1, tk_E.call q.2.1, q.2.2⟩, fun U hU hW => ⟨rfl, tk_E.warm hW hE, by rw [hU]; exact (fun k q h => by simp at h)⟩⟩ rfl rfl hl.1 rfl (lv_room (Nat.le_of_ble_eq_true rfl)) dB_pin_1 ⟨Nat.zero_le _, Nat.zero_le _⟩)) (fun r_1 er_1 => ?_)
  replace er_1 := er_1.trans (tk_is1 (N := 192) ex hn (by decide))
  subst er_1
  refine lv_if_ne (tgt := 17) hx hb dB_pin_4 (by decide) (fun c_2 => ?_) (fun c_2 => ?_)
  · refine lv_aload_n hx hb dB_pin_17 rfl (lv_at hl 0 rfl) ?_
    refine lv_iload_n hx hb dB_pin_18 rfl (lv_at hl 1 rfl) ?_
    refine vp_callSi (va_Run.run (va_runV (As := [.int x]) (rest := []) ⟨hx, hb, hml, hown, hts⟩ (c_B_frameWith l dC dI ka h dr db lg fa fr fb pg pn us di bt dk lf wn rd en fl hd x (-1) (Or.inl ⟨rfl, hno⟩)) (cwV 1 hts (tw_V wi_291 wi_293 wi_2 wi_24 wi_294) rfl rfl rfl (by decide +kernel) ⟨Nat.le_of_ble_eq_true rfl, Nat.le_of_ble_eq_true rfl⟩) ⟨fun a U g mk q => ⟨q.1, tk_E.call q.2.1, q.2.2⟩, va_recv hK hP (ci := 3) (q0 := 0) rfl rfl, fun U hU hW => ⟨rfl, tk_E.warm hW hE, by rw [hU]; exact hP⟩⟩ rfl rfl hl.1 rfl (lv_room (Nat.le_of_ble_eq_true rfl)) dB_pin_19 ⟨Nat.zero_le _, Nat.zero_le _⟩)) (fun r_3 er_3 => ?_)
    subst er_3
    refine lv_istore_n (lv' := [(2, .int (-1)), (0, .ref h), (1, .int x)]) hx hb dB_pin_22 rfl hl (by decide) rfl (fun ls hl => ?_)
    refine lv_iload_n hx hb dB_pin_23 rfl (lv_at hl 0 rfl) ?_
    refine lv_iconst (v := (-1)) hx hb dB_pin_24 (by decide) ?_
    refine lv_icmp_eq (tgt := 39) hx hb dB_pin_25 (by decide) (fun c_4 => ?_) (fun c_4 => ?_)
    · refine lv_aload_n hx hb dB_pin_39 rfl (lv_at hl 1 rfl) ?_
      refine vp_callSi (va_Run.run (va_runV (As := []) (rest := []) ⟨hx, hb, hml, hown, hts⟩ (c_B_allHavePins l dC dI ka h dr db lg fa fr fb pg pn us di bt dk lf wn rd en fl hd 1 hap) (cwV 0 hts (tw_V wi_302 wi_304 wi_3 wi_24 wi_305) rfl rfl rfl (by decide +kernel) ⟨Nat.le_of_ble_eq_true rfl, Nat.le_of_ble_eq_true rfl⟩) ⟨fun a U g mk q => ⟨q.1, tk_E.call q.2.1, q.2.2⟩, va_recv hK hP (ci := 3) (q0 := 0) rfl rfl, fun U hU hW => ⟨rfl, tk_E.warm hW hE, by rw [hU]; exact hP⟩⟩ rfl rfl hl.1 rfl (lv_room (Nat.le_of_ble_eq_true rfl)) dB_pin_40 ⟨Nat.zero_le _, Nat.zero_le _⟩)) (fun r_5 er_5 => ?_)
      subst er_5
      refine lv_if_eq (tgt := 56) hx hb dB_pin_43 (by decide) (fun c_6 => ?_) (fun c_6 => ?_)
      · exact absurd c_6 (by decide)
      · refine vx_throwS (names := xUp) (text := "all frames have pins") hx hb hst hown (by decide +kernel) (by decide +kernel) (hq _ wi_306) (hq _ wi_34) (hXx.2 1 _ rfl) (tk_at xg_ISE xb_ISE hq hXx.1) xo_ISE hZz.1 hZz.2 hS (hl.1.trans hml.symm) dB_pin_46 dB_pin_49 dB_pin_50 dB_pin_52 dB_pin_55 (fun z hz => (hT z hz).elim) (Nat.le_of_ble_eq_true rfl) (Nat.le_of_ble_eq_true rfl) (Nat.le_of_ble_eq_true rfl) (Nat.le_of_ble_eq_true rfl) hlocks (fun t hvm9 hz9 hk9 => ⟨(), trivial, ⟨rfl, tk_keptP hP hk9⟩, tk_keptF hS hz9 hk9⟩) hS.2.2 (Nat.le_of_ble_eq_true rfl) (Nat.le_of_ble_eq_true rfl)
    · exact absurd c_4 (by decide)
  · exact absurd c_2 (by decide)

set_option maxHeartbeats 4000000 in
set_option maxRecDepth 100000 in
theorem c_B_pin_x (l : Launch) (hst : l.stackTraces = false) (dC : Nat → ClassId) (dI : Nat → Nat → Nat) (ka : Nat → ClassId) (sa : Nat → Nat) (sz : Nat) (h dr db lg fa : Nat) (fr fb : Nat → Nat) (pg pn us di : Nat → Int32) (bt : Nat → Nat → Int32) (dk : Nat → Int32) (lf wn rd en fl : Int32) (q : Nat) (x : Int32) (n f0 np mm : Nat) (u1 : Nat → Int32) (ex : x = nI n) (hn : n < 192) (hno : ∀ i, i < 12 → pg i ≠ x) (hap : ahR pn 0) (hnt : tb2 dk (n * 512) = tb2 dk (n * 512 + 510)) (hne : ∀ i, i < 12 → pg i ≠ -1) (hq0 : q < 12) (hHB : hbU pn 48 (us, q) = (u1, f0)) (hf0 : f0 < 12) (hd0 : ¬ di f0 = 0) (hpg : pg f0 = nI np) (hnp : np < 192) (hF : sb_Fit (bt f0)) (hm8 : mm < 8) (hnz : ∀ z, z < mm → ¬ lfA lf z = 0) (h0 : lfA lf mm = 0) : vx_Met l yB_pin wB_pin ({ frames := 8, cells := 1, slots := 6, locals := 127 }) (va_Pc [.ref h, .int x] (fun U => U.heap.size = sz ∧ tk_E dC dI ka U ∧ tk_X sa U ∧ tk_Z (va_A (dw h dr db lg fa fr fb ka pg pn us di bt dk lf wn rd en fl (nI q)) sz) U U.heap ∧ va_P (dC, dI) clB (dw h dr db lg fa fr fb ka pg pn us di bt dk lf wn rd en fl (nI q)) U.heap ∧ va_D (fun _ => True) (dw h dr db lg fa fr fb ka pg pn us di bt dk lf wn rd en fl (nI q)))) (va_Qi (fun (_ : Int32) (_ : Unit) => False) (fun _ _ => True) (va_A (dw h dr db lg fa fr fb ka pg pn us di bt dk lf wn rd en fl (nI q)) sz)) (vx_X (fun _ : Unit => True) (fun E _ t => E = xUOE ∧ va_P (dC, dI) clB (dw h dr db lg fa fr fb ka (dropF (-1) pg 12) (dropF 0 pn 12) (dropF 0 u1 12) (dropF 0 di 12) (va_up bt f0 (psB (bt f0) (tb2 (bt f0) 0 + 1))) (wrD dk ((va_up bt f0 (psB (bt f0) (tb2 (bt f0) 0 + 1))) f0) np mm) (-1) (wn + nI mm) rd (if en < (plB (bt f0)) then (plB (bt f0)) else en) (if en < (plB (bt f0)) then fl + 1 else fl) 0) t.heap) (va_A (dw h dr db lg fa fr fb ka pg pn us di bt dk lf wn rd en fl (nI q)) sz)) 1 6 (va_A (dw h dr db lg fa fr fb ka pg pn us di bt dk lf wn rd en fl (nI q)) sz) := by
  refine vx_ofW (cc := cB_pin) (maxL := 4) (ret := (some .int)) (by decide) rfl ?_
  intro p e s m args below meth c s₁ B hml hT hv
  obtain ⟨rfl, hsz, hE, hXx, hZz, hP, hD0⟩ := hv
  have hx := B.exec
  have hb := B.bytes
  have hr := B.returns
  have hts := atoms_spec (ws := wB_pin) B.pre
  have hq : ∀ w ∈ lwg, w.before _ s = true := fun w h => hts w (List.mem_cons_of_mem _ h)
  have hown : s.vm.findClass RB = some m.cls := findClass_of_methodNamed B.named
  have hlocks := B.notSynchronized
  have hK := hE.1
  have hN := hE.2
  subst hsz
  have hD := hD0.self (sz := s.heap.size)
  generalize hAe : va_A (dw h dr db lg fa fr fb ka pg pn us di bt dk lf wn rd en fl (nI q)) s.heap.size = A at hD hZz ⊢
  have hA : ∀ q : Nat, s.heap.size ≤ q → A q := fun q h => by rw [← hAe]; exact Or.inr h
  have hS : va_S A s.heap s.heap [] := va_S.rf
  have hDw := hD
  have hP : va_P (dC, dI) clB (dw h dr db lg fa fr fb ka pg pn us di bt dk lf wn rd en fl (nI q)) s.heap := hP
  have hl := lv_entry ([.ref h, .int x]) (n := 4) (Nat.le_of_ble_eq_true rfl)
  rw [lg_entry_eq]
  generalize (lg_sl ([.ref h, .int x]) ++ List.replicate (4 - (lg_sl ([.ref h, .int x])).length) Slot.unset).toArray = ls at hl ⊢
  have hl : lv_has ls 4 [(0, .ref h), (1, .int x)] := hl
  refine lv_iload_n hx hb dB_pin_0 rfl (lv_at hl 1 rfl) ?_
  refine vp_callSi (va_Run.run (va_runS (As := [.int x]) (rest := []) ⟨hx, hb, hml, hown, hts⟩ (c_B_isPage l dC dI ka x) (cwS 1 hts (tw_S wi_184 wi_185 wi_24 wi_186) rfl rfl rfl (by decide +kernel) ⟨Nat.le_of_ble_eq_true rfl, Nat.le_of_ble_eq_true rfl⟩) ⟨fun a U g mk q => ⟨q.1, tk_E.call q.2.1, q.2.2⟩, fun U hU hW => ⟨rfl, tk_E.warm hW hE, by rw [hU]; exact (fun k q h => by simp at h)⟩⟩ rfl rfl hl.1 rfl (lv_room (Nat.le_of_ble_eq_true rfl)) dB_pin_1 ⟨Nat.zero_le _, Nat.zero_le _⟩)) (fun r_1 er_1 => ?_)
  replace er_1 := er_1.trans (tk_is1 (N := 192) ex hn (by decide))
  subst er_1
  refine lv_if_ne (tgt := 17) hx hb dB_pin_4 (by decide) (fun c_2 => ?_) (fun c_2 => ?_)
  · refine lv_aload_n hx hb dB_pin_17 rfl (lv_at hl 0 rfl) ?_
    refine lv_iload_n hx hb dB_pin_18 rfl (lv_at hl 1 rfl) ?_
    refine vp_callSi (va_Run.run (va_runV (As := [.int x]) (rest := []) ⟨hx, hb, hml, hown, hts⟩ (c_B_frameWith l dC dI ka h dr db lg fa fr fb pg pn us di bt dk lf wn rd en fl (nI q) x (-1) (Or.inl ⟨rfl, hno⟩)) (cwV 1 hts (tw_V wi_291 wi_293 wi_2 wi_24 wi_294) rfl rfl rfl (by decide +kernel) ⟨Nat.le_of_ble_eq_true rfl, Nat.le_of_ble_eq_true rfl⟩) ⟨fun a U g mk q => ⟨q.1, tk_E.call q.2.1, q.2.2⟩, va_recv hK hP (ci := 3) (q0 := 0) rfl rfl, fun U hU hW => ⟨rfl, tk_E.warm hW hE, by rw [hU]; exact hP⟩⟩ rfl rfl hl.1 rfl (lv_room (Nat.le_of_ble_eq_true rfl)) dB_pin_19 ⟨Nat.zero_le _, Nat.zero_le _⟩)) (fun r_3 er_3 => ?_)
    subst er_3
    refine lv_istore_n (lv' := [(2, .int (-1)), (0, .ref h), (1, .int x)]) hx hb dB_pin_22 rfl hl (by decide) rfl (fun ls hl => ?_)
    refine lv_iload_n hx hb dB_pin_23 rfl (lv_at hl 0 rfl) ?_
    refine lv_iconst (v := (-1)) hx hb dB_pin_24 (by decide) ?_
    refine lv_icmp_eq (tgt := 39) hx hb dB_pin_25 (by decide) (fun c_4 => ?_) (fun c_4 => ?_)
    · refine lv_aload_n hx hb dB_pin_39 rfl (lv_at hl 1 rfl) ?_
      refine vp_callSi (va_Run.run (va_runV (As := []) (rest := []) ⟨hx, hb, hml, hown, hts⟩ (c_B_allHavePins l dC dI ka h dr db lg fa fr fb pg pn us di bt dk lf wn rd en fl (nI q) 0 hap) (cwV 0 hts (tw_V wi_302 wi_304 wi_3 wi_24 wi_305) rfl rfl rfl (by decide +kernel) ⟨Nat.le_of_ble_eq_true rfl, Nat.le_of_ble_eq_true rfl⟩) ⟨fun a U g mk q => ⟨q.1, tk_E.call q.2.1, q.2.2⟩, va_recv hK hP (ci := 3) (q0 := 0) rfl rfl, fun U hU hW => ⟨rfl, tk_E.warm hW hE, by rw [hU]; exact hP⟩⟩ rfl rfl hl.1 rfl (lv_room (Nat.le_of_ble_eq_true rfl)) dB_pin_40 ⟨Nat.zero_le _, Nat.zero_le _⟩)) (fun r_5 er_5 => ?_)
      subst er_5
      refine lv_if_eq (tgt := 56) hx hb dB_pin_43 (by decide) (fun c_6 => ?_) (fun c_6 => ?_)
      · refine lv_aload_n hx hb dB_pin_56 rfl (lv_at hl 1 rfl) ?_
        refine va_get (D := (dC, dI)) (ci := 3) (v := .ref dr) (C := RB) (T := TB) (N := 4) hx hb hts (inC inB) hown hK hP 0 rfl rfl 0 (by decide) (hq _ wi_114) (fun _ h9 => h9) rfl dB_pin_57 ?_
        refine lv_iload_n hx hb dB_pin_60 rfl (lv_at hl 2 rfl) ?_
        refine vp_callSi (va_Run.run (va_runV (As := [.int x]) (rest := []) ⟨hx, hb, hml, hown, hts⟩ (c_D_isTorn l dC dI ka dr db lf wn rd dk x n ex hn) (cwV 1 hts (tw_V wi_195 wi_196 wi_197 wi_25 wi_198) rfl rfl rfl (by decide +kernel) ⟨Nat.le_of_ble_eq_true rfl, Nat.le_of_ble_eq_true rfl⟩) ⟨fun a U g mk q => ⟨q.1, tk_E.call q.2.1, q.2.2⟩, va_recv hK hP (ci := 0) (q0 := 1) rfl rfl, fun U hU hW => ⟨rfl, tk_E.warm hW hE, by rw [hU]; exact (tk_two hP (k := 1) (k' := 2) rfl rfl)⟩⟩ rfl rfl hl.1 rfl (lv_room (Nat.le_of_ble_eq_true rfl)) dB_pin_61 ⟨Nat.zero_le _, Nat.zero_le _⟩)) (fun r_7 er_7 => ?_)
        replace er_7 := er_7.trans (if_pos hnt)
        subst er_7
        refine lv_if_eq (tgt := 77) hx hb dB_pin_64 (by decide) (fun c_8 => ?_) (fun c_8 => ?_)
        · refine lv_aload_n hx hb dB_pin_77 rfl (lv_at hl 1 rfl) ?_
          have hFc := tk_freeW hD hS hA
          refine vx_calli (vx_runV (As := []) (rest := []) ⟨hx, hb, hml, hown, hts⟩ (c_B_findFrame_x l hst dC dI ka sa _ h dr db lg fa fr fb pg pn us di bt dk lf wn rd en fl q f0 np mm u1 hne hq0 hHB hf0 hd0 hpg hnp hF hm8 hnz h0) (cwV 0 hts (tw_V wi_338 wi_340 wi_4 wi_24 wi_341) rfl rfl rfl (by decide +kernel) ⟨Nat.le_of_ble_eq_true rfl, Nat.le_of_ble_eq_true rfl⟩) ⟨fun a U g mk q => ⟨q.1, q.2.1, tk_E.call q.2.2.1, tk_X.call q.2.2.2.1, tk_Z.call q.2.2.2.2.1, q.2.2.2.2.2⟩, va_recv hK hP (ci := 3) (q0 := 0) rfl rfl, fun U hU hW => ⟨rfl, by rw [hU], tk_E.warm hW hE, tk_X.warm hW hXx, tk_Z.at hZz hS hU hW hFc, by rw [hU]; exact hP, hD.weaken (fun _ _ _ _ => trivial)⟩⟩ rfl rfl hl.1 rfl (lv_room (Nat.le_of_ble_eq_true rfl)) dB_pin_78 ⟨Nat.le_refl _, Nat.le_refl _⟩) hS (fun q _ h => hFc q h) hFc (fun q _ h => hFc q h) (fun E9 ce q9 u t H1 locs ht hvm hpx hBX hz1 hk1 hS hce hcv hcl => ?_) (fun r u t H1 locs ht hvm hw hB hz1 hk1 hS => hw.elim)
          obtain ⟨rfl, hB⟩ := hBX
          exact vx_out (fun z hz => (hT z hz).elim) hlocks hce hcv hcl (fun t9 ht9 hvm9 => ⟨(), trivial, ⟨rfl, by show va_P _ _ _ t9.heap; rw [ht9.trans ht.symm]; exact hB⟩, hS.F ht9⟩) hS.2.2 (Nat.le_of_ble_eq_true rfl) (Nat.le_of_ble_eq_true rfl)
        · exact absurd c_8 (by decide)
      · exact absurd c_6 (by decide)
    · exact absurd c_4 (by decide)
  · exact absurd c_2 (by decide)

set_option maxHeartbeats 4000000 in
set_option maxRecDepth 100000 in
theorem c_B_remake_p0 (l : Launch) (hst : l.stackTraces = false) (dC : Nat → ClassId) (dI : Nat → Nat → Nat) (ka : Nat → ClassId) (sa : Nat → Nat) (sz : Nat) (h dr db lg fa : Nat) (fr fb : Nat → Nat) (pg pn us di : Nat → Int32) (bt : Nat → Nat → Int32) (dk : Nat → Int32) (lf wn rd en fl hd : Int32) (x : Int32) (hx0 : x < 0 ∨ nI 192 ≤ x) : vx_Met l yB_remake wB_remake ({ frames := 6, cells := 1, slots := 6, locals := 82 }) (va_Pc [.ref h, .int x] (fun U => U.heap.size = sz ∧ tk_E dC dI ka U ∧ tk_X sa U ∧ tk_Z (va_A (dw h dr db lg fa fr fb ka pg pn us di bt dk lf wn rd en fl hd) sz) U U.heap ∧ va_P (dC, dI) clB (dw h dr db lg fa fr fb ka pg pn us di bt dk lf wn rd en fl hd) U.heap ∧ va_D (fun _ => True) (dw h dr db lg fa fr fb ka pg pn us di bt dk lf wn rd en fl hd))) (va_Qi (fun (_ : Int32) (_ : Unit) => False) (fun _ _ => True) (va_A (dw h dr db lg fa fr fb ka pg pn us di bt dk lf wn rd en fl hd) sz)) (vx_X (fun _ : Unit => True) (fun E _ t => E = xIAE ∧ va_P (dC, dI) clB (dw h dr db lg fa fr fb ka pg pn us di bt dk lf wn rd en fl hd) t.heap) (va_A (dw h dr db lg fa fr fb ka pg pn us di bt dk lf wn rd en fl hd) sz)) 1 6 (va_A (dw h dr db lg fa fr fb ka pg pn us di bt dk lf wn rd en fl hd) sz) := by
  refine vx_ofW (cc := cB_remake) (maxL := 3) (ret := (some .int)) (by decide) rfl ?_
  intro p e s m args below meth c s₁ B hml hT hv
  obtain ⟨rfl, hsz, hE, hXx, hZz, hP, hD0⟩ := hv
  have hx := B.exec
  have hb := B.bytes
  have hr := B.returns
  have hts := atoms_spec (ws := wB_remake) B.pre
  have hq : ∀ w ∈ lwg, w.before _ s = true := fun w h => hts w (List.mem_cons_of_mem _ h)
  have hown : s.vm.findClass RB = some m.cls := findClass_of_methodNamed B.named
  have hlocks := B.notSynchronized
  have hK := hE.1
  have hN := hE.2
  subst hsz
  have hD := hD0.self (sz := s.heap.size)
  generalize hAe : va_A (dw h dr db lg fa fr fb ka pg pn us di bt dk lf wn rd en fl hd) s.heap.size = A at hD hZz ⊢
  have hA : ∀ q : Nat, s.heap.size ≤ q → A q := fun q h => by rw [← hAe]; exact Or.inr h
  have hS : va_S A s.heap s.heap [] := va_S.rf
  have hDw := hD
  have hP : va_P (dC, dI) clB (dw h dr db lg fa fr fb ka pg pn us di bt dk lf wn rd en fl hd) s.heap := hP
  have hl := lv_entry ([.ref h, .int x]) (n := 3) (Nat.le_of_ble_eq_true rfl)
  rw [lg_entry_eq]
  generalize (lg_sl ([.ref h, .int x]) ++ List.replicate (3 - (lg_sl ([.ref h, .int x])).length) Slot.unset).toArray = ls at hl ⊢
  have hl : lv_has ls 3 [(0, .ref h), (1, .int x)] := hl
  refine lv_iload_n hx hb dB_remake_0 rfl (lv_at hl 1 rfl) ?_
  refine vp_callSi (va_Run.run (va_runS (As := [.int x]) (rest := []) ⟨hx, hb, hml, hown, hts⟩ (c_B_isPage l dC dI ka x) (cwS 1 hts (tw_S wi_184 wi_185 wi_24 wi_186) rfl rfl rfl (by decide +kernel) ⟨Nat.le_of_ble_eq_true rfl, Nat.le_of_ble_eq_true rfl⟩) ⟨fun a U g mk q => ⟨q.1, tk_E.call q.2.1, q.2.2⟩, fun U hU hW => ⟨rfl, tk_E.warm hW hE, by rw [hU]; exact (fun k q h => by simp at h)⟩⟩ rfl rfl hl.1 rfl (lv_room (Nat.le_of_ble_eq_true rfl)) dB_remake_1 ⟨Nat.zero_le _, Nat.zero_le _⟩)) (fun r_1 er_1 => ?_)
  replace er_1 := er_1.trans (tk_is0 (N := 192) hx0)
  subst er_1
  refine lv_if_ne (tgt := 17) hx hb dB_remake_4 (by decide) (fun c_2 => ?_) (fun c_2 => ?_)
  · exact absurd c_2 (by decide)
  · refine vx_throwS (names := xUp) (text := "there is no such page") hx hb hst hown (by decide +kernel) (by decide +kernel) (hq _ wi_223) (hq _ wi_32) (hXx.2 0 _ rfl) (tk_at xg_IAE xb_IAE hq hXx.1) xo_IAE hZz.1 hZz.2 hS (hl.1.trans hml.symm) dB_remake_7 dB_remake_10 dB_remake_11 dB_remake_13 dB_remake_16 (fun z hz => (hT z hz).elim) (Nat.le_of_ble_eq_true rfl) (Nat.le_of_ble_eq_true rfl) (Nat.le_of_ble_eq_true rfl) (Nat.le_of_ble_eq_true rfl) hlocks (fun t hvm9 hz9 hk9 => ⟨(), trivial, ⟨rfl, tk_keptP hP hk9⟩, tk_keptF hS hz9 hk9⟩) hS.2.2 (Nat.le_of_ble_eq_true rfl) (Nat.le_of_ble_eq_true rfl)

set_option maxHeartbeats 4000000 in
set_option maxRecDepth 100000 in
theorem c_B_remake_h (l : Launch) (hst : l.stackTraces = false) (dC : Nat → ClassId) (dI : Nat → Nat → Nat) (ka : Nat → ClassId) (sa : Nat → Nat) (sz : Nat) (h dr db lg fa : Nat) (fr fb : Nat → Nat) (pg pn us di : Nat → Int32) (bt : Nat → Nat → Int32) (dk : Nat → Int32) (lf wn rd en fl hd : Int32) (x : Int32) (n j : Nat) (ex : x = nI n) (hn : n < 192) (hj : j < 12) (hfw : fwR pg x (nI j)) : vx_Met l yB_remake wB_remake ({ frames := 6, cells := 1, slots := 6, locals := 82 }) (va_Pc [.ref h, .int x] (fun U => U.heap.size = sz ∧ tk_E dC dI ka U ∧ tk_X sa U ∧ tk_Z (va_A (dw h dr db lg fa fr fb ka pg pn us di bt dk lf wn rd en fl hd) sz) U U.heap ∧ va_P (dC, dI) clB (dw h dr db lg fa fr fb ka pg pn us di bt dk lf wn rd en fl hd) U.heap ∧ va_D (fun _ => True) (dw h dr db lg fa fr fb ka pg pn us di bt dk lf wn rd en fl hd))) (va_Qi (fun (_ : Int32) (_ : Unit) => False) (fun _ _ => True) (va_A (dw h dr db lg fa fr fb ka pg pn us di bt dk lf wn rd en fl hd) sz)) (vx_X (fun _ : Unit => True) (fun E _ t => E = xISE ∧ va_P (dC, dI) clB (dw h dr db lg fa fr fb ka pg pn us di bt dk lf wn rd en fl hd) t.heap) (va_A (dw h dr db lg fa fr fb ka pg pn us di bt dk lf wn rd en fl hd) sz)) 1 6 (va_A (dw h dr db lg fa fr fb ka pg pn us di bt dk lf wn rd en fl hd) sz) := by
  refine vx_ofW (cc := cB_remake) (maxL := 3) (ret := (some .int)) (by decide) rfl ?_
  intro p e s m args below meth c s₁ B hml hT hv
  obtain ⟨rfl, hsz, hE, hXx, hZz, hP, hD0⟩ := hv
  have hx := B.exec
  have hb := B.bytes
  have hr := B.returns
  have hts := atoms_spec (ws := wB_remake) B.pre
  have hq : ∀ w ∈ lwg, w.before _ s = true := fun w h => hts w (List.mem_cons_of_mem _ h)
  have hown : s.vm.findClass RB = some m.cls := findClass_of_methodNamed B.named
  have hlocks := B.notSynchronized
  have hK := hE.1
  have hN := hE.2
  subst hsz
  have hD := hD0.self (sz := s.heap.size)
  generalize hAe : va_A (dw h dr db lg fa fr fb ka pg pn us di bt dk lf wn rd en fl hd) s.heap.size = A at hD hZz ⊢
  have hA : ∀ q : Nat, s.heap.size ≤ q → A q := fun q h => by rw [← hAe]; exact Or.inr h
  have hS : va_S A s.heap s.heap [] := va_S.rf
  have hDw := hD
  have hP : va_P (dC, dI) clB (dw h dr db lg fa fr fb ka pg pn us di bt dk lf wn rd en fl hd) s.heap := hP
  have hl := lv_entry ([.ref h, .int x]) (n := 3) (Nat.le_of_ble_eq_true rfl)
  rw [lg_entry_eq]
  generalize (lg_sl ([.ref h, .int x]) ++ List.replicate (3 - (lg_sl ([.ref h, .int x])).length) Slot.unset).toArray = ls at hl ⊢
  have hl : lv_has ls 3 [(0, .ref h), (1, .int x)] := hl
  refine lv_iload_n hx hb dB_remake_0 rfl (lv_at hl 1 rfl) ?_
  refine vp_callSi (va_Run.run (va_runS (As := [.int x]) (rest := []) ⟨hx, hb, hml, hown, hts⟩ (c_B_isPage l dC dI ka x) (cwS 1 hts (tw_S wi_184 wi_185 wi_24 wi_186) rfl rfl rfl (by decide +kernel) ⟨Nat.le_of_ble_eq_true rfl, Nat.le_of_ble_eq_true rfl⟩) ⟨fun a U g mk q => ⟨q.1, tk_E.call q.2.1, q.2.2⟩, fun U hU hW => ⟨rfl, tk_E.warm hW hE, by rw [hU]; exact (fun k q h => by simp at h)⟩⟩ rfl rfl hl.1 rfl (lv_room (Nat.le_of_ble_eq_true rfl)) dB_remake_1 ⟨Nat.zero_le _, Nat.zero_le _⟩)) (fun r_1 er_1 => ?_)
  replace er_1 := er_1.trans (tk_is1 (N := 192) ex hn (by decide))
  subst er_1
  refine lv_if_ne (tgt := 17) hx hb dB_remake_4 (by decide) (fun c_2 => ?_) (fun c_2 => ?_)
  · refine lv_aload_n hx hb dB_remake_17 rfl (lv_at hl 0 rfl) ?_
    refine lv_iload_n hx hb dB_remake_18 rfl (lv_at hl 1 rfl) ?_
    refine vp_callSi (va_Run.run (va_runV (As := [.int x]) (rest := []) ⟨hx, hb, hml, hown, hts⟩ (c_B_frameWith l dC dI ka h dr db lg fa fr fb pg pn us di bt dk lf wn rd en fl hd x (nI j) hfw) (cwV 1 hts (tw_V wi_291 wi_293 wi_2 wi_24 wi_294) rfl rfl rfl (by decide +kernel) ⟨Nat.le_of_ble_eq_true rfl, Nat.le_of_ble_eq_true rfl⟩) ⟨fun a U g mk q => ⟨q.1, tk_E.call q.2.1, q.2.2⟩, va_recv hK hP (ci := 3) (q0 := 0) rfl rfl, fun U hU hW => ⟨rfl, tk_E.warm hW hE, by rw [hU]; exact hP⟩⟩ rfl rfl hl.1 rfl (lv_room (Nat.le_of_ble_eq_true rfl)) dB_remake_19 ⟨Nat.zero_le _, Nat.zero_le _⟩)) (fun r_3 er_3 => ?_)
    subst er_3
    refine lv_iconst (v := (-1)) hx hb dB_remake_22 (by decide) ?_
    refine lv_icmp_eq (tgt := 36) hx hb dB_remake_23 (by decide) (fun c_4 => ?_) (fun c_4 => ?_)
    · exact absurd (c_4 ▸ nI_pos (n := j) (by omega)) (by decide)
    · refine vx_throwS (names := xUp) (text := "a frame has the page") hx hb hst hown (by decide +kernel) (by decide +kernel) (hq _ wi_306) (hq _ wi_34) (hXx.2 4 _ rfl) (tk_at xg_ISE xb_ISE hq hXx.1) xo_ISE hZz.1 hZz.2 hS (hl.1.trans hml.symm) dB_remake_26 dB_remake_29 dB_remake_30 dB_remake_32 dB_remake_35 (fun z hz => (hT z hz).elim) (Nat.le_of_ble_eq_true rfl) (Nat.le_of_ble_eq_true rfl) (Nat.le_of_ble_eq_true rfl) (Nat.le_of_ble_eq_true rfl) hlocks (fun t hvm9 hz9 hk9 => ⟨(), trivial, ⟨rfl, tk_keptP hP hk9⟩, tk_keptF hS hz9 hk9⟩) hS.2.2 (Nat.le_of_ble_eq_true rfl) (Nat.le_of_ble_eq_true rfl)
  · exact absurd c_2 (by decide)

set_option maxHeartbeats 4000000 in
set_option maxRecDepth 100000 in
theorem c_B_remake_a0 (l : Launch) (hst : l.stackTraces = false) (dC : Nat → ClassId) (dI : Nat → Nat → Nat) (ka : Nat → ClassId) (sa : Nat → Nat) (sz : Nat) (h dr db lg fa : Nat) (fr fb : Nat → Nat) (pg pn us di : Nat → Int32) (bt : Nat → Nat → Int32) (dk : Nat → Int32) (lf wn rd en fl hd : Int32) (x : Int32) (n : Nat) (ex : x = nI n) (hn : n < 192) (hno : ∀ i, i < 12 → pg i ≠ x) (hap : ahR pn 1) : vx_Met l yB_remake wB_remake ({ frames := 6, cells := 1, slots := 6, locals := 82 }) (va_Pc [.ref h, .int x] (fun U => U.heap.size = sz ∧ tk_E dC dI ka U ∧ tk_X sa U ∧ tk_Z (va_A (dw h dr db lg fa fr fb ka pg pn us di bt dk lf wn rd en fl hd) sz) U U.heap ∧ va_P (dC, dI) clB (dw h dr db lg fa fr fb ka pg pn us di bt dk lf wn rd en fl hd) U.heap ∧ va_D (fun _ => True) (dw h dr db lg fa fr fb ka pg pn us di bt dk lf wn rd en fl hd))) (va_Qi (fun (_ : Int32) (_ : Unit) => False) (fun _ _ => True) (va_A (dw h dr db lg fa fr fb ka pg pn us di bt dk lf wn rd en fl hd) sz)) (vx_X (fun _ : Unit => True) (fun E _ t => E = xISE ∧ va_P (dC, dI) clB (dw h dr db lg fa fr fb ka pg pn us di bt dk lf wn rd en fl hd) t.heap) (va_A (dw h dr db lg fa fr fb ka pg pn us di bt dk lf wn rd en fl hd) sz)) 1 6 (va_A (dw h dr db lg fa fr fb ka pg pn us di bt dk lf wn rd en fl hd) sz) := by
  refine vx_ofW (cc := cB_remake) (maxL := 3) (ret := (some .int)) (by decide) rfl ?_
  intro p e s m args below meth c s₁ B hml hT hv
  obtain ⟨rfl, hsz, hE, hXx, hZz, hP, hD0⟩ := hv
  have hx := B.exec
  have hb := B.bytes
  have hr := B.returns
  have hts := atoms_spec (ws := wB_remake) B.pre
  have hq : ∀ w ∈ lwg, w.before _ s = true := fun w h => hts w (List.mem_cons_of_mem _ h)
  have hown : s.vm.findClass RB = some m.cls := findClass_of_methodNamed B.named
  have hlocks := B.notSynchronized
  have hK := hE.1
  have hN := hE.2
  subst hsz
  have hD := hD0.self (sz := s.heap.size)
  generalize hAe : va_A (dw h dr db lg fa fr fb ka pg pn us di bt dk lf wn rd en fl hd) s.heap.size = A at hD hZz ⊢
  have hA : ∀ q : Nat, s.heap.size ≤ q → A q := fun q h => by rw [← hAe]; exact Or.inr h
  have hS : va_S A s.heap s.heap [] := va_S.rf
  have hDw := hD
  have hP : va_P (dC, dI) clB (dw h dr db lg fa fr fb ka pg pn us di bt dk lf wn rd en fl hd) s.heap := hP
  have hl := lv_entry ([.ref h, .int x]) (n := 3) (Nat.le_of_ble_eq_true rfl)
  rw [lg_entry_eq]
  generalize (lg_sl ([.ref h, .int x]) ++ List.replicate (3 - (lg_sl ([.ref h, .int x])).length) Slot.unset).toArray = ls at hl ⊢
  have hl : lv_has ls 3 [(0, .ref h), (1, .int x)] := hl
  refine lv_iload_n hx hb dB_remake_0 rfl (lv_at hl 1 rfl) ?_
  refine vp_callSi (va_Run.run (va_runS (As := [.int x]) (rest := []) ⟨hx, hb, hml, hown, hts⟩ (c_B_isPage l dC dI ka x) (cwS 1 hts (tw_S wi_184 wi_185 wi_24 wi_186) rfl rfl rfl (by decide +kernel) ⟨Nat.le_of_ble_eq_true rfl, Nat.le_of_ble_eq_true rfl⟩) ⟨fun a U g mk q => ⟨q.1, tk_E.call q.2.1, q.2.2⟩, fun U hU hW => ⟨rfl, tk_E.warm hW hE, by rw [hU]; exact (fun k q h => by simp at h)⟩⟩ rfl rfl hl.1 rfl (lv_room (Nat.le_of_ble_eq_true rfl)) dB_remake_1 ⟨Nat.zero_le _, Nat.zero_le _⟩)) (fun r_1 er_1 => ?_)
  replace er_1 := er_1.trans (tk_is1 (N := 192) ex hn (by decide))
  subst er_1
  refine lv_if_ne (tgt := 17) hx hb dB_remake_4 (by decide) (fun c_2 => ?_) (fun c_2 => ?_)
  · refine lv_aload_n hx hb dB_remake_17 rfl (lv_at hl 0 rfl) ?_
    refine lv_iload_n hx hb dB_remake_18 rfl (lv_at hl 1 rfl) ?_
    refine vp_callSi (va_Run.run (va_runV (As := [.int x]) (rest := []) ⟨hx, hb, hml, hown, hts⟩ (c_B_frameWith l dC dI ka h dr db lg fa fr fb pg pn us di bt dk lf wn rd en fl hd x (-1) (Or.inl ⟨rfl, hno⟩)) (cwV 1 hts (tw_V wi_291 wi_293 wi_2 wi_24 wi_294) rfl rfl rfl (by decide +kernel) ⟨Nat.le_of_ble_eq_true rfl, Nat.le_of_ble_eq_true rfl⟩) ⟨fun a U g mk q => ⟨q.1, tk_E.call q.2.1, q.2.2⟩, va_recv hK hP (ci := 3) (q0 := 0) rfl rfl, fun U hU hW => ⟨rfl, tk_E.warm hW hE, by rw [hU]; exact hP⟩⟩ rfl rfl hl.1 rfl (lv_room (Nat.le_of_ble_eq_true rfl)) dB_remake_19 ⟨Nat.zero_le _, Nat.zero_le _⟩)) (fun r_3 er_3 => ?_)
    subst er_3
    refine lv_iconst (v := (-1)) hx hb dB_remake_22 (by decide) ?_
    refine lv_icmp_eq (tgt := 36) hx hb dB_remake_23 (by decide) (fun c_4 => ?_) (fun c_4 => ?_)
    · refine lv_aload_n hx hb dB_remake_36 rfl (lv_at hl 0 rfl) ?_
      refine vp_callSi (va_Run.run (va_runV (As := []) (rest := []) ⟨hx, hb, hml, hown, hts⟩ (c_B_allHavePins l dC dI ka h dr db lg fa fr fb pg pn us di bt dk lf wn rd en fl hd 1 hap) (cwV 0 hts (tw_V wi_302 wi_304 wi_3 wi_24 wi_305) rfl rfl rfl (by decide +kernel) ⟨Nat.le_of_ble_eq_true rfl, Nat.le_of_ble_eq_true rfl⟩) ⟨fun a U g mk q => ⟨q.1, tk_E.call q.2.1, q.2.2⟩, va_recv hK hP (ci := 3) (q0 := 0) rfl rfl, fun U hU hW => ⟨rfl, tk_E.warm hW hE, by rw [hU]; exact hP⟩⟩ rfl rfl hl.1 rfl (lv_room (Nat.le_of_ble_eq_true rfl)) dB_remake_37 ⟨Nat.zero_le _, Nat.zero_le _⟩)) (fun r_5 er_5 => ?_)
      subst er_5
      refine lv_if_eq (tgt := 53) hx hb dB_remake_40 (by decide) (fun c_6 => ?_) (fun c_6 => ?_)
      · exact absurd c_6 (by decide)
      · refine vx_throwS (names := xUp) (text := "all frames have pins") hx hb hst hown (by decide +kernel) (by decide +kernel) (hq _ wi_306) (hq _ wi_34) (hXx.2 1 _ rfl) (tk_at xg_ISE xb_ISE hq hXx.1) xo_ISE hZz.1 hZz.2 hS (hl.1.trans hml.symm) dB_remake_43 dB_remake_46 dB_remake_47 dB_remake_49 dB_remake_52 (fun z hz => (hT z hz).elim) (Nat.le_of_ble_eq_true rfl) (Nat.le_of_ble_eq_true rfl) (Nat.le_of_ble_eq_true rfl) (Nat.le_of_ble_eq_true rfl) hlocks (fun t hvm9 hz9 hk9 => ⟨(), trivial, ⟨rfl, tk_keptP hP hk9⟩, tk_keptF hS hz9 hk9⟩) hS.2.2 (Nat.le_of_ble_eq_true rfl) (Nat.le_of_ble_eq_true rfl)
    · exact absurd c_4 (by decide)
  · exact absurd c_2 (by decide)

set_option maxHeartbeats 4000000 in
set_option maxRecDepth 100000 in
theorem c_B_remake_x (l : Launch) (hst : l.stackTraces = false) (dC : Nat → ClassId) (dI : Nat → Nat → Nat) (ka : Nat → ClassId) (sa : Nat → Nat) (sz : Nat) (h dr db lg fa : Nat) (fr fb : Nat → Nat) (pg pn us di : Nat → Int32) (bt : Nat → Nat → Int32) (dk : Nat → Int32) (lf wn rd en fl : Int32) (q : Nat) (x : Int32) (n f0 np mm : Nat) (u1 : Nat → Int32) (ex : x = nI n) (hn : n < 192) (hno : ∀ i, i < 12 → pg i ≠ x) (hap : ahR pn 0) (hne : ∀ i, i < 12 → pg i ≠ -1) (hq0 : q < 12) (hHB : hbU pn 48 (us, q) = (u1, f0)) (hf0 : f0 < 12) (hd0 : ¬ di f0 = 0) (hpg : pg f0 = nI np) (hnp : np < 192) (hF : sb_Fit (bt f0)) (hm8 : mm < 8) (hnz : ∀ z, z < mm → ¬ lfA lf z = 0) (h0 : lfA lf mm = 0) : vx_Met l yB_remake wB_remake ({ frames := 8, cells := 1, slots := 6, locals := 127 }) (va_Pc [.ref h, .int x] (fun U => U.heap.size = sz ∧ tk_E dC dI ka U ∧ tk_X sa U ∧ tk_Z (va_A (dw h dr db lg fa fr fb ka pg pn us di bt dk lf wn rd en fl (nI q)) sz) U U.heap ∧ va_P (dC, dI) clB (dw h dr db lg fa fr fb ka pg pn us di bt dk lf wn rd en fl (nI q)) U.heap ∧ va_D (fun _ => True) (dw h dr db lg fa fr fb ka pg pn us di bt dk lf wn rd en fl (nI q)))) (va_Qi (fun (_ : Int32) (_ : Unit) => False) (fun _ _ => True) (va_A (dw h dr db lg fa fr fb ka pg pn us di bt dk lf wn rd en fl (nI q)) sz)) (vx_X (fun _ : Unit => True) (fun E _ t => E = xUOE ∧ va_P (dC, dI) clB (dw h dr db lg fa fr fb ka (dropF (-1) pg 12) (dropF 0 pn 12) (dropF 0 u1 12) (dropF 0 di 12) (va_up bt f0 (psB (bt f0) (tb2 (bt f0) 0 + 1))) (wrD dk ((va_up bt f0 (psB (bt f0) (tb2 (bt f0) 0 + 1))) f0) np mm) (-1) (wn + nI mm) rd (if en < (plB (bt f0)) then (plB (bt f0)) else en) (if en < (plB (bt f0)) then fl + 1 else fl) 0) t.heap) (va_A (dw h dr db lg fa fr fb ka pg pn us di bt dk lf wn rd en fl (nI q)) sz)) 1 6 (va_A (dw h dr db lg fa fr fb ka pg pn us di bt dk lf wn rd en fl (nI q)) sz) := by
  refine vx_ofW (cc := cB_remake) (maxL := 3) (ret := (some .int)) (by decide) rfl ?_
  intro p e s m args below meth c s₁ B hml hT hv
  obtain ⟨rfl, hsz, hE, hXx, hZz, hP, hD0⟩ := hv
  have hx := B.exec
  have hb := B.bytes
  have hr := B.returns
  have hts := atoms_spec (ws := wB_remake) B.pre
  have hq : ∀ w ∈ lwg, w.before _ s = true := fun w h => hts w (List.mem_cons_of_mem _ h)
  have hown : s.vm.findClass RB = some m.cls := findClass_of_methodNamed B.named
  have hlocks := B.notSynchronized
  have hK := hE.1
  have hN := hE.2
  subst hsz
  have hD := hD0.self (sz := s.heap.size)
  generalize hAe : va_A (dw h dr db lg fa fr fb ka pg pn us di bt dk lf wn rd en fl (nI q)) s.heap.size = A at hD hZz ⊢
  have hA : ∀ q : Nat, s.heap.size ≤ q → A q := fun q h => by rw [← hAe]; exact Or.inr h
  have hS : va_S A s.heap s.heap [] := va_S.rf
  have hDw := hD
  have hP : va_P (dC, dI) clB (dw h dr db lg fa fr fb ka pg pn us di bt dk lf wn rd en fl (nI q)) s.heap := hP
  have hl := lv_entry ([.ref h, .int x]) (n := 3) (Nat.le_of_ble_eq_true rfl)
  rw [lg_entry_eq]
  generalize (lg_sl ([.ref h, .int x]) ++ List.replicate (3 - (lg_sl ([.ref h, .int x])).length) Slot.unset).toArray = ls at hl ⊢
  have hl : lv_has ls 3 [(0, .ref h), (1, .int x)] := hl
  refine lv_iload_n hx hb dB_remake_0 rfl (lv_at hl 1 rfl) ?_
  refine vp_callSi (va_Run.run (va_runS (As := [.int x]) (rest := []) ⟨hx, hb, hml, hown, hts⟩ (c_B_isPage l dC dI ka x) (cwS 1 hts (tw_S wi_184 wi_185 wi_24 wi_186) rfl rfl rfl (by decide +kernel) ⟨Nat.le_of_ble_eq_true rfl, Nat.le_of_ble_eq_true rfl⟩) ⟨fun a U g mk q => ⟨q.1, tk_E.call q.2.1, q.2.2⟩, fun U hU hW => ⟨rfl, tk_E.warm hW hE, by rw [hU]; exact (fun k q h => by simp at h)⟩⟩ rfl rfl hl.1 rfl (lv_room (Nat.le_of_ble_eq_true rfl)) dB_remake_1 ⟨Nat.zero_le _, Nat.zero_le _⟩)) (fun r_1 er_1 => ?_)
  replace er_1 := er_1.trans (tk_is1 (N := 192) ex hn (by decide))
  subst er_1
  refine lv_if_ne (tgt := 17) hx hb dB_remake_4 (by decide) (fun c_2 => ?_) (fun c_2 => ?_)
  · refine lv_aload_n hx hb dB_remake_17 rfl (lv_at hl 0 rfl) ?_
    refine lv_iload_n hx hb dB_remake_18 rfl (lv_at hl 1 rfl) ?_
    refine vp_callSi (va_Run.run (va_runV (As := [.int x]) (rest := []) ⟨hx, hb, hml, hown, hts⟩ (c_B_frameWith l dC dI ka h dr db lg fa fr fb pg pn us di bt dk lf wn rd en fl (nI q) x (-1) (Or.inl ⟨rfl, hno⟩)) (cwV 1 hts (tw_V wi_291 wi_293 wi_2 wi_24 wi_294) rfl rfl rfl (by decide +kernel) ⟨Nat.le_of_ble_eq_true rfl, Nat.le_of_ble_eq_true rfl⟩) ⟨fun a U g mk q => ⟨q.1, tk_E.call q.2.1, q.2.2⟩, va_recv hK hP (ci := 3) (q0 := 0) rfl rfl, fun U hU hW => ⟨rfl, tk_E.warm hW hE, by rw [hU]; exact hP⟩⟩ rfl rfl hl.1 rfl (lv_room (Nat.le_of_ble_eq_true rfl)) dB_remake_19 ⟨Nat.zero_le _, Nat.zero_le _⟩)) (fun r_3 er_3 => ?_)
    subst er_3
    refine lv_iconst (v := (-1)) hx hb dB_remake_22 (by decide) ?_
    refine lv_icmp_eq (tgt := 36) hx hb dB_remake_23 (by decide) (fun c_4 => ?_) (fun c_4 => ?_)
    · refine lv_aload_n hx hb dB_remake_36 rfl (lv_at hl 0 rfl) ?_
      refine vp_callSi (va_Run.run (va_runV (As := []) (rest := []) ⟨hx, hb, hml, hown, hts⟩ (c_B_allHavePins l dC dI ka h dr db lg fa fr fb pg pn us di bt dk lf wn rd en fl (nI q) 0 hap) (cwV 0 hts (tw_V wi_302 wi_304 wi_3 wi_24 wi_305) rfl rfl rfl (by decide +kernel) ⟨Nat.le_of_ble_eq_true rfl, Nat.le_of_ble_eq_true rfl⟩) ⟨fun a U g mk q => ⟨q.1, tk_E.call q.2.1, q.2.2⟩, va_recv hK hP (ci := 3) (q0 := 0) rfl rfl, fun U hU hW => ⟨rfl, tk_E.warm hW hE, by rw [hU]; exact hP⟩⟩ rfl rfl hl.1 rfl (lv_room (Nat.le_of_ble_eq_true rfl)) dB_remake_37 ⟨Nat.zero_le _, Nat.zero_le _⟩)) (fun r_5 er_5 => ?_)
      subst er_5
      refine lv_if_eq (tgt := 53) hx hb dB_remake_40 (by decide) (fun c_6 => ?_) (fun c_6 => ?_)
      · refine lv_aload_n hx hb dB_remake_53 rfl (lv_at hl 0 rfl) ?_
        have hFc := tk_freeW hD hS hA
        refine vx_calli (vx_runV (As := []) (rest := []) ⟨hx, hb, hml, hown, hts⟩ (c_B_findFrame_x l hst dC dI ka sa _ h dr db lg fa fr fb pg pn us di bt dk lf wn rd en fl q f0 np mm u1 hne hq0 hHB hf0 hd0 hpg hnp hF hm8 hnz h0) (cwV 0 hts (tw_V wi_338 wi_340 wi_4 wi_24 wi_341) rfl rfl rfl (by decide +kernel) ⟨Nat.le_of_ble_eq_true rfl, Nat.le_of_ble_eq_true rfl⟩) ⟨fun a U g mk q => ⟨q.1, q.2.1, tk_E.call q.2.2.1, tk_X.call q.2.2.2.1, tk_Z.call q.2.2.2.2.1, q.2.2.2.2.2⟩, va_recv hK hP (ci := 3) (q0 := 0) rfl rfl, fun U hU hW => ⟨rfl, by rw [hU], tk_E.warm hW hE, tk_X.warm hW hXx, tk_Z.at hZz hS hU hW hFc, by rw [hU]; exact hP, hD.weaken (fun _ _ _ _ => trivial)⟩⟩ rfl rfl hl.1 rfl (lv_room (Nat.le_of_ble_eq_true rfl)) dB_remake_54 ⟨Nat.le_refl _, Nat.le_refl _⟩) hS (fun q _ h => hFc q h) hFc (fun q _ h => hFc q h) (fun E9 ce q9 u t H1 locs ht hvm hpx hBX hz1 hk1 hS hce hcv hcl => ?_) (fun r u t H1 locs ht hvm hw hB hz1 hk1 hS => hw.elim)
        obtain ⟨rfl, hB⟩ := hBX
        exact vx_out (fun z hz => (hT z hz).elim) hlocks hce hcv hcl (fun t9 ht9 hvm9 => ⟨(), trivial, ⟨rfl, by show va_P _ _ _ t9.heap; rw [ht9.trans ht.symm]; exact hB⟩, hS.F ht9⟩) hS.2.2 (Nat.le_of_ble_eq_true rfl) (Nat.le_of_ble_eq_true rfl)
      · exact absurd c_6 (by decide)
    · exact absurd c_4 (by decide)
  · exact absurd c_2 (by decide)

set_option maxHeartbeats 4000000 in
set_option maxRecDepth 100000 in
theorem c_B_remake_in (l : Launch) (dC : Nat → ClassId) (dI : Nat → Nat → Nat) (ka : Nat → ClassId) (sz : Nat) (h dr db lg fa : Nat) (fr fb : Nat → Nat) (pg pn us di : Nat → Int32) (bt : Nat → Nat → Int32) (dk : Nat → Int32) (lf wn rd en fl : Int32) (q : Nat) (x : Int32) (n f0 : Nat) (us' di' : Nat → Int32) (bt' : Nat → Nat → Int32) (dk' : Nat → Int32) (lf' wn' en' fl' hd' : Int32) (ex : x = nI n) (hn : n < 192) (hno : ∀ i, i < 12 → pg i ≠ x) (hap : ahR pn 0) (hq0 : q < 12) (hff : ffOK pg pn us di bt dk lf wn en fl q f0 us' di' bt' dk' lf' wn' en' fl' hd') : Met l yB_remake wB_remake ({ frames := 4, cells := 0, slots := 0, locals := 151 }) (va_Pc [.ref h, .int x] (fun U => U.heap.size = sz ∧ tk_E dC dI ka U ∧ va_P (dC, dI) clB (dw h dr db lg fa fr fb ka pg pn us di bt dk lf wn rd en fl (nI q)) U.heap ∧ va_D (fun _ => True) (dw h dr db lg fa fr fb ka pg pn us di bt dk lf wn rd en fl (nI q)))) (va_Qi (fun (r : Int32) (_ : Unit) => r = nI f0) (fun _ t => va_P (dC, dI) clB (dw h dr db lg fa fr fb ka (upd pg f0 x) (upd pn f0 1) (upd us' f0 1) (upd di' f0 0) (va_up bt' f0 (psB (fun _ => 0) (tb2 dk' (n * 512)))) dk' lf' wn' rd en' fl' hd') t.heap) (va_A (dw h dr db lg fa fr fb ka pg pn us di bt dk lf wn rd en fl (nI q)) sz)) 0 0 (va_A (dw h dr db lg fa fr fb ka pg pn us di bt dk lf wn rd en fl (nI q)) sz) := by
  refine Met.ofW (cc := cB_remake) (maxL := 3) (ret := (some .int)) (by decide) rfl ?_
  intro p e s m args below meth c s₁ B hml hv
  obtain ⟨rfl, hsz, hE, hP, hD0⟩ := hv
  have hx := B.exec
  have hb := B.bytes
  have hr := B.returns
  have hts := atoms_spec (ws := wB_remake) B.pre
  have hq : ∀ w ∈ lwg, w.before _ s = true := fun w h => hts w (List.mem_cons_of_mem _ h)
  have hown : s.vm.findClass RB = some m.cls := findClass_of_methodNamed B.named
  have hlocks := B.notSynchronized
  have hK := hE.1
  have hN := hE.2
  subst hsz
  have hD := hD0.self (sz := s.heap.size)
  generalize hAe : va_A (dw h dr db lg fa fr fb ka pg pn us di bt dk lf wn rd en fl (nI q)) s.heap.size = A at hD ⊢
  have hA : ∀ q : Nat, s.heap.size ≤ q → A q := fun q h => by rw [← hAe]; exact Or.inr h
  have hS : va_S A s.heap s.heap [] := va_S.rf
  have hDw := hD
  have hP : va_P (dC, dI) clB (dw h dr db lg fa fr fb ka pg pn us di bt dk lf wn rd en fl (nI q)) s.heap := hP
  have hl := lv_entry ([.ref h, .int x]) (n := 3) (Nat.le_of_ble_eq_true rfl)
  rw [lg_entry_eq]
  generalize (lg_sl ([.ref h, .int x]) ++ List.replicate (3 - (lg_sl ([.ref h, .int x])).length) Slot.unset).toArray = ls at hl ⊢
  have hl : lv_has ls 3 [(0, .ref h), (1, .int x)] := hl
  refine lv_iload_n hx hb dB_remake_0 rfl (lv_at hl 1 rfl) ?_
  refine vp_callSi (va_Run.run (va_runS (As := [.int x]) (rest := []) ⟨hx, hb, hml, hown, hts⟩ (c_B_isPage l dC dI ka x) (cwS 1 hts (tw_S wi_184 wi_185 wi_24 wi_186) rfl rfl rfl (by decide +kernel) ⟨Nat.le_of_ble_eq_true rfl, Nat.le_of_ble_eq_true rfl⟩) ⟨fun a U g mk q => ⟨q.1, tk_E.call q.2.1, q.2.2⟩, fun U hU hW => ⟨rfl, tk_E.warm hW hE, by rw [hU]; exact (fun k q h => by simp at h)⟩⟩ rfl rfl hl.1 rfl (lv_room (Nat.le_of_ble_eq_true rfl)) dB_remake_1 ⟨Nat.zero_le _, Nat.zero_le _⟩)) (fun r_1 er_1 => ?_)
  replace er_1 := er_1.trans (tk_is1 (N := 192) ex hn (by decide))
  subst er_1
  refine lv_if_ne (tgt := 17) hx hb dB_remake_4 (by decide) (fun c_2 => ?_) (fun c_2 => ?_)
  · refine lv_aload_n hx hb dB_remake_17 rfl (lv_at hl 0 rfl) ?_
    refine lv_iload_n hx hb dB_remake_18 rfl (lv_at hl 1 rfl) ?_
    refine vp_callSi (va_Run.run (va_runV (As := [.int x]) (rest := []) ⟨hx, hb, hml, hown, hts⟩ (c_B_frameWith l dC dI ka h dr db lg fa fr fb pg pn us di bt dk lf wn rd en fl (nI q) x (-1) (Or.inl ⟨rfl, hno⟩)) (cwV 1 hts (tw_V wi_291 wi_293 wi_2 wi_24 wi_294) rfl rfl rfl (by decide +kernel) ⟨Nat.le_of_ble_eq_true rfl, Nat.le_of_ble_eq_true rfl⟩) ⟨fun a U g mk q => ⟨q.1, tk_E.call q.2.1, q.2.2⟩, va_recv hK hP (ci := 3) (q0 := 0) rfl rfl, fun U hU hW => ⟨rfl, tk_E.warm hW hE, by rw [hU]; exact hP⟩⟩ rfl rfl hl.1 rfl (lv_room (Nat.le_of_ble_eq_true rfl)) dB_remake_19 ⟨Nat.zero_le _, Nat.zero_le _⟩)) (fun r_3 er_3 => ?_)
    subst er_3
    refine lv_iconst (v := (-1)) hx hb dB_remake_22 (by decide) ?_
    refine lv_icmp_eq (tgt := 36) hx hb dB_remake_23 (by decide) (fun c_4 => ?_) (fun c_4 => ?_)
    · refine lv_aload_n hx hb dB_remake_36 rfl (lv_at hl 0 rfl) ?_
      refine vp_callSi (va_Run.run (va_runV (As := []) (rest := []) ⟨hx, hb, hml, hown, hts⟩ (c_B_allHavePins l dC dI ka h dr db lg fa fr fb pg pn us di bt dk lf wn rd en fl (nI q) 0 hap) (cwV 0 hts (tw_V wi_302 wi_304 wi_3 wi_24 wi_305) rfl rfl rfl (by decide +kernel) ⟨Nat.le_of_ble_eq_true rfl, Nat.le_of_ble_eq_true rfl⟩) ⟨fun a U g mk q => ⟨q.1, tk_E.call q.2.1, q.2.2⟩, va_recv hK hP (ci := 3) (q0 := 0) rfl rfl, fun U hU hW => ⟨rfl, tk_E.warm hW hE, by rw [hU]; exact hP⟩⟩ rfl rfl hl.1 rfl (lv_room (Nat.le_of_ble_eq_true rfl)) dB_remake_37 ⟨Nat.zero_le _, Nat.zero_le _⟩)) (fun r_5 er_5 => ?_)
      subst er_5
      refine lv_if_eq (tgt := 53) hx hb dB_remake_40 (by decide) (fun c_6 => ?_) (fun c_6 => ?_)
      · have hf0 := hff.1
        refine lv_aload_n hx hb dB_remake_53 rfl (lv_at hl 0 rfl) ?_
        have hFc := tk_freeW hD hS hA
        refine va_calli (va_runV (As := []) (rest := []) ⟨hx, hb, hml, hown, hts⟩ (c_B_findFrame l dC dI ka _ h dr db lg fa fr fb pg pn us di bt dk lf wn rd en fl q f0 us' di' bt' dk' lf' wn' en' fl' hd' hq0 hff) (cwV 0 hts (tw_V wi_338 wi_340 wi_4 wi_24 wi_341) rfl rfl rfl (by decide +kernel) ⟨Nat.le_of_ble_eq_true rfl, Nat.le_of_ble_eq_true rfl⟩) ⟨fun a U g mk q => ⟨q.1, q.2.1, tk_E.call q.2.2.1, q.2.2.2⟩, va_recv hK hP (ci := 3) (q0 := 0) rfl rfl, fun U hU hW => ⟨rfl, by rw [hU], tk_E.warm hW hE, by rw [hU]; exact hP, hD.weaken (fun _ _ _ _ => trivial)⟩⟩ rfl rfl hl.1 rfl (lv_room (Nat.le_of_ble_eq_true rfl)) dB_remake_54 ⟨Nat.zero_le _, Nat.zero_le _⟩) hS (fun q _ h => hFc q h) hFc (fun r_8 u_7 t H1 locs ht hvm hw hB hz1 hk1 hS => ?_)
        have hB : va_P (dC, dI) clB (dw h dr db lg fa fr fb ka pg pn us' di' bt' dk' lf' wn' rd en' fl' hd') H1 := by rw [← ht]; exact hB
        obtain ⟨hP, hD⟩ := (⟨hB, dw_D hDw⟩ : va_P (dC, dI) clB (dw h dr db lg fa fr fb ka pg pn us' di' bt' dk' lf' wn' rd en' fl' hd') H1 ∧ va_D A (dw h dr db lg fa fr fb ka pg pn us' di' bt' dk' lf' wn' rd en' fl' hd'))
        generalize H1 = H at hP hS ⊢
        have hP : va_P (dC, dI) clB (dw h dr db lg fa fr fb ka pg pn us' di' bt' dk' lf' wn' rd en' fl' hd') H := hP
        have hD : va_D A (dw h dr db lg fa fr fb ka pg pn us' di' bt' dk' lf' wn' rd en' fl' hd') := dw_D hDw
        subst hw
        refine lv_istore_n (lv' := [(2, .int (nI f0)), (0, .ref h), (1, .int x)]) hx hb dB_remake_57 rfl hl (by decide) rfl (fun ls hl => ?_)
        refine lv_aload_n hx hb dB_remake_58 rfl (lv_at hl 1 rfl) ?_
        refine va_get (D := (dC, dI)) (ci := 3) (v := .ref fa) (C := RB) (T := TB) (N := 4) hx hb hts (inC inB) hown hK hP 0 rfl rfl 2 (by decide) (hq _ wi_116) (fun _ h9 => h9) rfl dB_remake_59 ?_
        refine lv_iload_n hx hb dB_remake_62 rfl (lv_at hl 0 rfl) ?_
        refine tk_aald (n := f0) (y := fr f0) hx hb hK hP 4 1 rfl rfl rfl hf0 (by decide) rfl dB_remake_63 ?_
        refine lv_iload_n hx hb dB_remake_64 rfl (lv_at hl 2 rfl) ?_
        have hFc := tk_free1 (k := 5 + f0) hD hS hA (dw_fr hf0)
        refine va_callv (va_runV (As := [.int x]) (rest := []) ⟨hx, hb, hml, hown, hts⟩ (c_F_takePage l dC dI ka _ (fr f0) (fb f0) (pg f0) (pn f0) (us' f0) (di' f0) x) (cwV 1 hts (tw_V wi_405 wi_406 wi_407 wi_27 wi_408) rfl rfl rfl (by decide +kernel) ⟨Nat.le_of_ble_eq_true rfl, Nat.le_of_ble_eq_true rfl⟩) ⟨fun a U g mk q => ⟨q.1, q.2.1, tk_E.call q.2.2.1, q.2.2.2⟩, va_recv hK hP (ci := 1) (q0 := (5 + f0)) rfl (dw_fr hf0), fun U hU hW => ⟨rfl, by rw [hU], tk_E.warm hW hE, by rw [hU]; exact (tk_one hP (k := 5 + f0) (dw_fr hf0)), tk_done⟩⟩ rfl rfl hl.1 rfl (lv_room (Nat.le_of_ble_eq_true rfl)) dB_remake_65 ⟨Nat.zero_le _, Nat.zero_le _⟩) hS (fun q _ h => hFc q h) hFc (fun u_9 t H1 locs ht hvm hw hB hz1 hk1 hS => ?_)
        have hB : va_P (dC, dI) clB [((fr f0), .inr (1, [.ref (fb f0), .int x, .int 1, .int 1, .int 0]))] H1 := by rw [← ht]; exact hB
        obtain ⟨hP, hD⟩ := tk_join1 (k := 5 + f0) hP hD (dw_fr hf0) hk1 hB
        generalize H1 = H at hP hS ⊢
        have hP : va_P (dC, dI) clB (dw h dr db lg fa fr fb ka (upd pg f0 x) (upd pn f0 1) (upd us' f0 1) (upd di' f0 0) bt' dk' lf' wn' rd en' fl' hd') H := (by rw [← dw_set_fr hf0]; exact hP)
        have hD : va_D A (dw h dr db lg fa fr fb ka (upd pg f0 x) (upd pn f0 1) (upd us' f0 1) (upd di' f0 0) bt' dk' lf' wn' rd en' fl' hd') := dw_D hDw
        refine lv_aload_n hx hb dB_remake_68 rfl (lv_at hl 1 rfl) ?_
        refine va_get (D := (dC, dI)) (ci := 3) (v := .ref fa) (C := RB) (T := TB) (N := 4) hx hb hts (inC inB) hown hK hP 0 rfl rfl 2 (by decide) (hq _ wi_116) (fun _ h9 => h9) rfl dB_remake_69 ?_
        refine lv_iload_n hx hb dB_remake_72 rfl (lv_at hl 0 rfl) ?_
        refine tk_aald (n := f0) (y := fr f0) hx hb hK hP 4 1 rfl rfl rfl hf0 (by decide) rfl dB_remake_73 ?_
        refine lv_aload_n hx hb dB_remake_74 rfl (lv_at hl 1 rfl) ?_
        refine va_get (D := (dC, dI)) (ci := 3) (v := .ref dr) (C := RB) (T := TB) (N := 4) hx hb hts (inC inB) hown hK hP 0 rfl rfl 0 (by decide) (hq _ wi_114) (fun _ h9 => h9) rfl dB_remake_75 ?_
        refine lv_iload_n hx hb dB_remake_78 rfl (lv_at hl 2 rfl) ?_
        refine vp_callSi (va_Run.run (va_runV (As := [.int x]) (rest := [.ref (fr f0)]) ⟨hx, hb, hml, hown, hts⟩ (c_D_firstStamp l dC dI ka dr db lf' wn' rd dk' x n ex hn) (cwV 1 hts (tw_V wi_421 wi_200 wi_201 wi_25 wi_202) rfl rfl rfl (by decide +kernel) ⟨Nat.le_of_ble_eq_true rfl, Nat.le_of_ble_eq_true rfl⟩) ⟨fun a U g mk q => ⟨q.1, tk_E.call q.2.1, q.2.2⟩, va_recv hK hP (ci := 0) (q0 := 1) rfl rfl, fun U hU hW => ⟨rfl, tk_E.warm hW hE, by rw [hU]; exact (tk_two hP (k := 1) (k' := 2) rfl rfl)⟩⟩ rfl rfl hl.1 rfl (lv_room (Nat.le_of_ble_eq_true rfl)) dB_remake_79 ⟨Nat.zero_le _, Nat.zero_le _⟩)) (fun r_11 er_11 => ?_)
        subst er_11
        have hFc := tk_free2 (k := 5 + f0) (k' := 17 + f0) hD hS hA (dw_fr hf0) (dw_fb hf0)
        refine va_callv (va_runV (As := [.int (tb2 dk' (n * 512))]) (rest := []) ⟨hx, hb, hml, hown, hts⟩ (c_F_blank l dC dI ka _ (fr f0) (fb f0) ((upd pg f0 x) f0) ((upd pn f0 1) f0) ((upd us' f0 1) f0) ((upd di' f0 0) f0) (bt' f0) (tb2 dk' (n * 512)) ) (cwV 1 hts (tw_V wi_422 wi_423 wi_424 wi_27 wi_425) rfl rfl rfl (by decide +kernel) ⟨Nat.le_of_ble_eq_true rfl, Nat.le_of_ble_eq_true rfl⟩) ⟨fun a U g mk q => ⟨q.1, q.2.1, tk_E.call q.2.2.1, q.2.2.2⟩, va_recv hK hP (ci := 1) (q0 := (5 + f0)) rfl (dw_fr hf0), fun U hU hW => ⟨rfl, by rw [hU], tk_E.warm hW hE, by rw [hU]; exact (tk_two hP (k := 5 + f0) (k' := 17 + f0) (dw_fr hf0) (dw_fb hf0)), (tk_dtwo hD (k := 5 + f0) (k' := 17 + f0) (dw_fr hf0) (dw_fb hf0) (by omega))⟩⟩ rfl rfl hl.1 rfl (lv_room (Nat.le_of_ble_eq_true rfl)) dB_remake_82 ⟨Nat.zero_le _, Nat.zero_le _⟩) hS (fun q _ h => hFc q h) hFc (fun u_12 t H1 locs ht hvm hw hB hz1 hk1 hS => ?_)
        have hB : va_P (dC, dI) clB [((fr f0), .inr (1, [.ref (fb f0), .int ((upd pg f0 x) f0), .int ((upd pn f0 1) f0), .int ((upd us' f0 1) f0), .int ((upd di' f0 0) f0)])), ((fb f0), .inl (ka 0, 512, .inl (psB (fun _ => 0) (tb2 dk' (n * 512)))))] H1 := by rw [← ht]; exact hB
        obtain ⟨hP, hD⟩ := tk_join2 (k := 5 + f0) (k' := 17 + f0) hP hD (dw_fr hf0) (dw_fb hf0) (by omega) hk1 hB
        generalize H1 = H at hP hS ⊢
        have hP : va_P (dC, dI) clB (dw h dr db lg fa fr fb ka (upd pg f0 x) (upd pn f0 1) (upd us' f0 1) (upd di' f0 0) (va_up bt' f0 (psB (fun _ => 0) (tb2 dk' (n * 512)))) dk' lf' wn' rd en' fl' hd') H := (by rw [← dw_set_fb hf0, ← dw_set_n hf0]; exact hP)
        have hD : va_D A (dw h dr db lg fa fr fb ka (upd pg f0 x) (upd pn f0 1) (upd us' f0 1) (upd di' f0 0) (va_up bt' f0 (psB (fun _ => 0) (tb2 dk' (n * 512)))) dk' lf' wn' rd en' fl' hd') := dw_D hDw
        refine lv_iload_n hx hb dB_remake_85 rfl (lv_at hl 0 rfl) ?_
        exact W.iret (v := (nI f0)) hx hb hr (fun t ht hW => ⟨⟨(nI f0), (), rfl, rfl, by show va_P _ _ _ t.heap; rw [ht]; exact hP⟩, hS.F ht⟩) hS.2.2 dB_remake_86
      · exact absurd c_6 (by decide)
    · exact absurd c_4 (by decide)
  · exact absurd c_2 (by decide)

set_option maxHeartbeats 4000000 in
set_option maxRecDepth 100000 in
theorem c_B_charge_e (l : Launch) (hst : l.stackTraces = false) (dC : Nat → ClassId) (dI : Nat → Nat → Nat) (ka : Nat → ClassId) (sa : Nat → Nat) (sz : Nat) (h dr db lg fa : Nat) (fr fb : Nat → Nat) (pg pn us di : Nat → Int32) (bt : Nat → Nat → Int32) (dk : Nat → Int32) (lf wn rd en fl hd : Int32) (x : Int32) (hx0 : x < 0 ∨ ¬ x ≤ 999) : vx_Met l yB_charge wB_charge ({ frames := 6, cells := 1, slots := 6, locals := 82 }) (va_Pc [.ref h, .int x] (fun U => U.heap.size = sz ∧ tk_E dC dI ka U ∧ tk_X sa U ∧ tk_Z (va_A (dw h dr db lg fa fr fb ka pg pn us di bt dk lf wn rd en fl hd) sz) U U.heap ∧ va_P (dC, dI) clB (dw h dr db lg fa fr fb ka pg pn us di bt dk lf wn rd en fl hd) U.heap ∧ va_D (fun _ => True) (dw h dr db lg fa fr fb ka pg pn us di bt dk lf wn rd en fl hd))) (va_Qv (fun _ : Unit => False) (fun _ _ => True) (va_A (dw h dr db lg fa fr fb ka pg pn us di bt dk lf wn rd en fl hd) sz)) (vx_X (fun _ : Unit => True) (fun E _ t => E = xIAE ∧ va_P (dC, dI) clB (dw h dr db lg fa fr fb ka pg pn us di bt dk lf wn rd en fl hd) t.heap) (va_A (dw h dr db lg fa fr fb ka pg pn us di bt dk lf wn rd en fl hd) sz)) 1 6 (va_A (dw h dr db lg fa fr fb ka pg pn us di bt dk lf wn rd en fl hd) sz) := by
  refine vx_ofW (cc := cB_charge) (maxL := 2) (ret := none) (by decide) rfl ?_
  intro p e s m args below meth c s₁ B hml hT hv
  obtain ⟨rfl, hsz, hE, hXx, hZz, hP, hD0⟩ := hv
  have hx := B.exec
  have hb := B.bytes
  have hr := B.returns
  have hts := atoms_spec (ws := wB_charge) B.pre
  have hq : ∀ w ∈ lwg, w.before _ s = true := fun w h => hts w (List.mem_cons_of_mem _ h)
  have hown : s.vm.findClass RB = some m.cls := findClass_of_methodNamed B.named
  have hlocks := B.notSynchronized
  have hK := hE.1
  have hN := hE.2
  subst hsz
  have hD := hD0.self (sz := s.heap.size)
  generalize hAe : va_A (dw h dr db lg fa fr fb ka pg pn us di bt dk lf wn rd en fl hd) s.heap.size = A at hD hZz ⊢
  have hA : ∀ q : Nat, s.heap.size ≤ q → A q := fun q h => by rw [← hAe]; exact Or.inr h
  have hS : va_S A s.heap s.heap [] := va_S.rf
  have hDw := hD
  have hP : va_P (dC, dI) clB (dw h dr db lg fa fr fb ka pg pn us di bt dk lf wn rd en fl hd) s.heap := hP
  have hl := lv_entry ([.ref h, .int x]) (n := 2) (Nat.le_of_ble_eq_true rfl)
  rw [lg_entry_eq]
  generalize (lg_sl ([.ref h, .int x]) ++ List.replicate (2 - (lg_sl ([.ref h, .int x])).length) Slot.unset).toArray = ls at hl ⊢
  have hl : lv_has ls 2 [(0, .ref h), (1, .int x)] := hl
  refine lv_iload_n hx hb dB_charge_0 rfl (lv_at hl 1 rfl) ?_
  refine lv_if_lt (tgt := 11) hx hb dB_charge_1 (by decide) (fun c_1 => ?_) (fun c_1 => ?_)
  · refine vx_throwS (names := xUp) (text := "n is not 0 .. 999") hx hb hst hown (by decide +kernel) (by decide +kernel) (hq _ wi_223) (hq _ wi_32) (hXx.2 6 _ rfl) (tk_at xg_IAE xb_IAE hq hXx.1) xo_IAE hZz.1 hZz.2 hS (hl.1.trans hml.symm) dB_charge_11 dB_charge_14 dB_charge_15 dB_charge_17 dB_charge_20 (fun z hz => (hT z hz).elim) (Nat.le_of_ble_eq_true rfl) (Nat.le_of_ble_eq_true rfl) (Nat.le_of_ble_eq_true rfl) (Nat.le_of_ble_eq_true rfl) hlocks (fun t hvm9 hz9 hk9 => ⟨(), trivial, ⟨rfl, tk_keptP hP hk9⟩, tk_keptF hS hz9 hk9⟩) hS.2.2 (Nat.le_of_ble_eq_true rfl) (Nat.le_of_ble_eq_true rfl)
  · refine lv_iload_n hx hb dB_charge_4 rfl (lv_at hl 1 rfl) ?_
    refine lv_sipush (v := 999) hx hb dB_charge_5 (by decide) ?_
    refine lv_icmp_le (tgt := 21) hx hb dB_charge_8 (by decide) (fun c_2 => ?_) (fun c_2 => ?_)
    · exact absurd c_2 (hx0.resolve_left c_1)
    · refine vx_throwS (names := xUp) (text := "n is not 0 .. 999") hx hb hst hown (by decide +kernel) (by decide +kernel) (hq _ wi_223) (hq _ wi_32) (hXx.2 6 _ rfl) (tk_at xg_IAE xb_IAE hq hXx.1) xo_IAE hZz.1 hZz.2 hS (hl.1.trans hml.symm) dB_charge_11 dB_charge_14 dB_charge_15 dB_charge_17 dB_charge_20 (fun z hz => (hT z hz).elim) (Nat.le_of_ble_eq_true rfl) (Nat.le_of_ble_eq_true rfl) (Nat.le_of_ble_eq_true rfl) (Nat.le_of_ble_eq_true rfl) hlocks (fun t hvm9 hz9 hk9 => ⟨(), trivial, ⟨rfl, tk_keptP hP hk9⟩, tk_keptF hS hz9 hk9⟩) hS.2.2 (Nat.le_of_ble_eq_true rfl) (Nat.le_of_ble_eq_true rfl)

set_option maxHeartbeats 4000000 in
set_option maxRecDepth 100000 in
theorem c_B_charge_in (l : Launch) (dC : Nat → ClassId) (dI : Nat → Nat → Nat) (ka : Nat → ClassId) (sz : Nat) (h dr db lg fa : Nat) (fr fb : Nat → Nat) (pg pn us di : Nat → Int32) (bt : Nat → Nat → Int32) (dk : Nat → Int32) (lf wn rd en fl hd : Int32) (x : Int32) (hx1 : ¬ x < 0) (hx2 : x ≤ 999) : Met l yB_charge wB_charge ({ frames := 0, cells := 0, slots := 0, locals := 0 }) (va_Pc [.ref h, .int x] (fun U => U.heap.size = sz ∧ tk_E dC dI ka U ∧ va_P (dC, dI) clB (dw h dr db lg fa fr fb ka pg pn us di bt dk lf wn rd en fl hd) U.heap ∧ va_D (fun _ => True) (dw h dr db lg fa fr fb ka pg pn us di bt dk lf wn rd en fl hd))) (va_Qv (fun _ : Unit => True) (fun _ t => va_P (dC, dI) clB (dw h dr db lg fa fr fb ka pg pn us di bt dk x wn rd en fl hd) t.heap) (va_A (dw h dr db lg fa fr fb ka pg pn us di bt dk lf wn rd en fl hd) sz)) 0 0 (va_A (dw h dr db lg fa fr fb ka pg pn us di bt dk lf wn rd en fl hd) sz) := by
  refine Met.ofW (cc := cB_charge) (maxL := 2) (ret := none) (by decide) rfl ?_
  intro p e s m args below meth c s₁ B hml hv
  obtain ⟨rfl, hsz, hE, hP, hD0⟩ := hv
  have hx := B.exec
  have hb := B.bytes
  have hr := B.returns
  have hts := atoms_spec (ws := wB_charge) B.pre
  have hq : ∀ w ∈ lwg, w.before _ s = true := fun w h => hts w (List.mem_cons_of_mem _ h)
  have hown : s.vm.findClass RB = some m.cls := findClass_of_methodNamed B.named
  have hlocks := B.notSynchronized
  have hK := hE.1
  have hN := hE.2
  subst hsz
  have hD := hD0.self (sz := s.heap.size)
  generalize hAe : va_A (dw h dr db lg fa fr fb ka pg pn us di bt dk lf wn rd en fl hd) s.heap.size = A at hD ⊢
  have hA : ∀ q : Nat, s.heap.size ≤ q → A q := fun q h => by rw [← hAe]; exact Or.inr h
  have hS : va_S A s.heap s.heap [] := va_S.rf
  have hDw := hD
  have hP : va_P (dC, dI) clB (dw h dr db lg fa fr fb ka pg pn us di bt dk lf wn rd en fl hd) s.heap := hP
  have hl := lv_entry ([.ref h, .int x]) (n := 2) (Nat.le_of_ble_eq_true rfl)
  rw [lg_entry_eq]
  generalize (lg_sl ([.ref h, .int x]) ++ List.replicate (2 - (lg_sl ([.ref h, .int x])).length) Slot.unset).toArray = ls at hl ⊢
  have hl : lv_has ls 2 [(0, .ref h), (1, .int x)] := hl
  refine lv_iload_n hx hb dB_charge_0 rfl (lv_at hl 1 rfl) ?_
  refine lv_if_lt (tgt := 11) hx hb dB_charge_1 (by decide) (fun c_1 => ?_) (fun c_1 => ?_)
  · exact absurd c_1 hx1
  · refine lv_iload_n hx hb dB_charge_4 rfl (lv_at hl 1 rfl) ?_
    refine lv_sipush (v := 999) hx hb dB_charge_5 (by decide) ?_
    refine lv_icmp_le (tgt := 21) hx hb dB_charge_8 (by decide) (fun c_2 => ?_) (fun c_2 => ?_)
    · refine lv_aload_n hx hb dB_charge_21 rfl (lv_at hl 0 rfl) ?_
      refine va_get (D := (dC, dI)) (ci := 3) (v := .ref dr) (C := RB) (T := TB) (N := 4) hx hb hts (inC inB) hown hK hP 0 rfl rfl 0 (by decide) (hq _ wi_114) (fun _ h9 => h9) rfl dB_charge_22 ?_
      refine lv_iload_n hx hb dB_charge_25 rfl (lv_at hl 1 rfl) ?_
      refine va_putN (D := (dC, dI)) (ci := 0) (v := .int x) (ty := .int) (C := RD) (T := TD) (N := 4) hx hb hts (inC inD) tyD tyD_ok nmD hown hK hP hD hS 1 rfl rfl 1 (by decide) (va_Nw.use rfl (hN _ ns_1)) (fun _ h9 => h9) rfl (by decide +kernel) rfl rfl (Nat.le_of_ble_eq_true rfl) dB_charge_26 (fun H locs hP hD hS => ?_)
      have hP : va_P (dC, dI) clB (dw h dr db lg fa fr fb ka pg pn us di bt dk x wn rd en fl hd) H := hP
      have hD : va_D A (dw h dr db lg fa fr fb ka pg pn us di bt dk x wn rd en fl hd) := dw_D hDw
      exact W.vret hx hb hr (fun t ht hW => ⟨⟨(), rfl, trivial, by show va_P _ _ _ t.heap; rw [ht]; exact hP⟩, hS.F ht⟩) hS.2.2 dB_charge_29
    · exact absurd hx2 c_2

set_option maxHeartbeats 4000000 in
set_option maxRecDepth 100000 in
theorem c_B_clean_e (l : Launch) (hst : l.stackTraces = false) (dC : Nat → ClassId) (dI : Nat → Nat → Nat) (ka : Nat → ClassId) (sa : Nat → Nat) (sz : Nat) (h dr db lg fa : Nat) (fr fb : Nat → Nat) (pg pn us di : Nat → Int32) (bt : Nat → Nat → Int32) (dk : Nat → Int32) (lf wn rd en fl hd : Int32) (x : Int32) (hx0 : x < 1 ∨ ¬ x ≤ 12) : vx_Met l yB_clean wB_clean ({ frames := 6, cells := 1, slots := 6, locals := 82 }) (va_Pc [.ref h, .int x] (fun U => U.heap.size = sz ∧ tk_E dC dI ka U ∧ tk_X sa U ∧ tk_Z (va_A (dw h dr db lg fa fr fb ka pg pn us di bt dk lf wn rd en fl hd) sz) U U.heap ∧ va_P (dC, dI) clB (dw h dr db lg fa fr fb ka pg pn us di bt dk lf wn rd en fl hd) U.heap ∧ va_D (fun _ => True) (dw h dr db lg fa fr fb ka pg pn us di bt dk lf wn rd en fl hd))) (va_Qi (fun (_ : Int32) (_ : Unit) => False) (fun _ _ => True) (va_A (dw h dr db lg fa fr fb ka pg pn us di bt dk lf wn rd en fl hd) sz)) (vx_X (fun _ : Unit => True) (fun E _ t => E = xIAE ∧ va_P (dC, dI) clB (dw h dr db lg fa fr fb ka pg pn us di bt dk lf wn rd en fl hd) t.heap) (va_A (dw h dr db lg fa fr fb ka pg pn us di bt dk lf wn rd en fl hd) sz)) 1 6 (va_A (dw h dr db lg fa fr fb ka pg pn us di bt dk lf wn rd en fl hd) sz) := by
  refine vx_ofW (cc := cB_clean) (maxL := 5) (ret := (some .int)) (by decide) rfl ?_
  intro p e s m args below meth c s₁ B hml hT hv
  obtain ⟨rfl, hsz, hE, hXx, hZz, hP, hD0⟩ := hv
  have hx := B.exec
  have hb := B.bytes
  have hr := B.returns
  have hts := atoms_spec (ws := wB_clean) B.pre
  have hq : ∀ w ∈ lwg, w.before _ s = true := fun w h => hts w (List.mem_cons_of_mem _ h)
  have hown : s.vm.findClass RB = some m.cls := findClass_of_methodNamed B.named
  have hlocks := B.notSynchronized
  have hK := hE.1
  have hN := hE.2
  subst hsz
  have hD := hD0.self (sz := s.heap.size)
  generalize hAe : va_A (dw h dr db lg fa fr fb ka pg pn us di bt dk lf wn rd en fl hd) s.heap.size = A at hD hZz ⊢
  have hA : ∀ q : Nat, s.heap.size ≤ q → A q := fun q h => by rw [← hAe]; exact Or.inr h
  have hS : va_S A s.heap s.heap [] := va_S.rf
  have hDw := hD
  have hP : va_P (dC, dI) clB (dw h dr db lg fa fr fb ka pg pn us di bt dk lf wn rd en fl hd) s.heap := hP
  have hl := lv_entry ([.ref h, .int x]) (n := 5) (Nat.le_of_ble_eq_true rfl)
  rw [lg_entry_eq]
  generalize (lg_sl ([.ref h, .int x]) ++ List.replicate (5 - (lg_sl ([.ref h, .int x])).length) Slot.unset).toArray = ls at hl ⊢
  have hl : lv_has ls 5 [(0, .ref h), (1, .int x)] := hl
  refine lv_iload_n hx hb dB_clean_0 rfl (lv_at hl 1 rfl) ?_
  refine lv_iconst (v := 1) hx hb dB_clean_1 (by decide) ?_
  refine lv_icmp_lt (tgt := 11) hx hb dB_clean_2 (by decide) (fun c_1 => ?_) (fun c_1 => ?_)
  · refine vx_throwS (names := xUp) (text := "n is not 1 .. 12") hx hb hst hown (by decide +kernel) (by decide +kernel) (hq _ wi_223) (hq _ wi_32) (hXx.2 5 _ rfl) (tk_at xg_IAE xb_IAE hq hXx.1) xo_IAE hZz.1 hZz.2 hS (hl.1.trans hml.symm) dB_clean_11 dB_clean_14 dB_clean_15 dB_clean_17 dB_clean_20 (fun z hz => (hT z hz).elim) (Nat.le_of_ble_eq_true rfl) (Nat.le_of_ble_eq_true rfl) (Nat.le_of_ble_eq_true rfl) (Nat.le_of_ble_eq_true rfl) hlocks (fun t hvm9 hz9 hk9 => ⟨(), trivial, ⟨rfl, tk_keptP hP hk9⟩, tk_keptF hS hz9 hk9⟩) hS.2.2 (Nat.le_of_ble_eq_true rfl) (Nat.le_of_ble_eq_true rfl)
  · refine lv_iload_n hx hb dB_clean_5 rfl (lv_at hl 1 rfl) ?_
    refine lv_bipush (v := 12) hx hb dB_clean_6 (by decide) ?_
    refine lv_icmp_le (tgt := 21) hx hb dB_clean_8 (by decide) (fun c_2 => ?_) (fun c_2 => ?_)
    · exact absurd c_2 (hx0.resolve_left c_1)
    · refine vx_throwS (names := xUp) (text := "n is not 1 .. 12") hx hb hst hown (by decide +kernel) (by decide +kernel) (hq _ wi_223) (hq _ wi_32) (hXx.2 5 _ rfl) (tk_at xg_IAE xb_IAE hq hXx.1) xo_IAE hZz.1 hZz.2 hS (hl.1.trans hml.symm) dB_clean_11 dB_clean_14 dB_clean_15 dB_clean_17 dB_clean_20 (fun z hz => (hT z hz).elim) (Nat.le_of_ble_eq_true rfl) (Nat.le_of_ble_eq_true rfl) (Nat.le_of_ble_eq_true rfl) (Nat.le_of_ble_eq_true rfl) hlocks (fun t hvm9 hz9 hk9 => ⟨(), trivial, ⟨rfl, tk_keptP hP hk9⟩, tk_keptF hS hz9 hk9⟩) hS.2.2 (Nat.le_of_ble_eq_true rfl) (Nat.le_of_ble_eq_true rfl)
