set_option maxHeartbeats 4000000 in
set_option maxRecDepth 100000 in
theorem c_B_set_f0 (l : Launch) (dC : Nat → ClassId) (dI : Nat → Nat → Nat) (ka : Nat → ClassId) (sz : Nat) (h dr db lg fa : Nat) (fr fb : Nat → Nat) (pg pn us di : Nat → Int32) (bt : Nat → Nat → Int32) (dk : Nat → Int32) (lf wn rd en fl hd : Int32) (x y v pl : Int32) (hx0 : x < 0 ∨ nI 12 ≤ x) : Met l yB_set wB_set ({ frames := 1, cells := 0, slots := 0, locals := 20 }) (va_Pc [.ref h, .int x, .int y, .int v, .int pl] (fun U => U.heap.size = sz ∧ tk_E dC dI ka U ∧ va_P (dC, dI) clB (dw h dr db lg fa fr fb ka pg pn us di bt dk lf wn rd en fl hd) U.heap ∧ va_D (fun _ => True) (dw h dr db lg fa fr fb ka pg pn us di bt dk lf wn rd en fl hd))) (va_Qi (fun (r : Int32) (_ : Unit) => r = 0) (fun _ t => va_P (dC, dI) clB (dw h dr db lg fa fr fb ka pg pn us di bt dk lf wn rd en fl hd) t.heap) (va_A (dw h dr db lg fa fr fb ka pg pn us di bt dk lf wn rd en fl hd) sz)) 0 0 (va_A (dw h dr db lg fa fr fb ka pg pn us di bt dk lf wn rd en fl hd) sz) := by
  refine Met.ofW (cc := cB_set) (maxL := 5) (ret := (some .boolean)) (by decide) rfl ?_
  intro p e s m args below meth c s₁ B hml hv
  obtain ⟨rfl, hsz, hE, hP, hD0⟩ := hv
  have hx := B.exec
  have hb := B.bytes
  have hr := B.returns
  have hts := atoms_spec (ws := wB_set) B.pre
  have hq : ∀ w ∈ lwg, w.before _ s = true := fun w h => hts w (List.mem_cons_of_mem _ h)
  have hown : s.vm.findClass RB = some m.cls := findClass_of_methodNamed B.named
  have hlocks := B.notSynchronized
  have hK := hE.1
  have hN := hE.2
  subst hsz
  have hD := hD0.self (sz := s.heap.size)
  generalize hAe : va_A (dw h dr db lg fa fr fb ka pg pn us di bt dk lf wn rd en fl hd) s.heap.size = A at hD ⊢
  have hA : ∀ q : Nat, s.heap.size ≤ q → A q := fun q h => by rw [← hAe]; exact Or.inr h
  have hS : va_S A s.heap s.heap [] := va_S.rf
  have hDw := hD
  have hP : va_P (dC, dI) clB (dw h dr db lg fa fr fb ka pg pn us di bt dk lf wn rd en fl hd) s.heap := hP
  have hl := lv_entry ([.ref h, .int x, .int y, .int v, .int pl]) (n := 5) (Nat.le_of_ble_eq_true rfl)
  rw [lg_entry_eq]
  generalize (lg_sl ([.ref h, .int x, .int y, .int v, .int pl]) ++ List.replicate (5 - (lg_sl ([.ref h, .int x, .int y, .int v, .int pl])).length) Slot.unset).toArray = ls at hl ⊢
  have hl : lv_has ls 5 [(0, .ref h), (1, .int x), (2, .int y), (3, .int v), (4, .int pl)] := hl
  refine lv_iload_n hx hb dB_set_0 rfl (lv_at hl 1 rfl) ?_
  refine vp_callSi (va_Run.run (va_runS (As := [.int x]) (rest := []) ⟨hx, hb, hml, hown, hts⟩ (c_B_isFrame l dC dI ka x) (cwS 1 hts (tw_S wi_131 wi_132 wi_24 wi_133) rfl rfl rfl (by decide +kernel) ⟨Nat.le_of_ble_eq_true rfl, Nat.le_of_ble_eq_true rfl⟩) ⟨fun a U g mk q => ⟨q.1, tk_E.call q.2.1, q.2.2⟩, fun U hU hW => ⟨rfl, tk_E.warm hW hE, by rw [hU]; exact (fun k q h => by simp at h)⟩⟩ rfl rfl hl.1 rfl (lv_room (Nat.le_of_ble_eq_true rfl)) dB_set_1 ⟨Nat.zero_le _, Nat.zero_le _⟩)) (fun r_1 er_1 => ?_)
  replace er_1 := er_1.trans (tk_is0 (N := 12) hx0)
  subst er_1
  refine lv_if_eq (tgt := 20) hx hb dB_set_4 (by decide) (fun c_2 => ?_) (fun c_2 => ?_)
  · refine lv_iconst (v := 0) hx hb dB_set_20 (by decide) ?_
    exact W.zret (v := 0) (ty := .boolean) hx hb hr rfl (fun t ht hW => ⟨⟨0, (), rfl, rfl, by show va_P _ _ _ t.heap; rw [ht]; exact hP⟩, hS.F ht⟩) hS.2.2 dB_set_21
  · exact absurd c_2 (by decide)

set_option maxHeartbeats 4000000 in
set_option maxRecDepth 100000 in
theorem c_B_set_i0 (l : Launch) (dC : Nat → ClassId) (dI : Nat → Nat → Nat) (ka : Nat → ClassId) (sz : Nat) (h dr db lg fa : Nat) (fr fb : Nat → Nat) (pg pn us di : Nat → Int32) (bt : Nat → Nat → Int32) (dk : Nat → Int32) (lf wn rd en fl hd : Int32) (x y v pl : Int32) (n : Nat) (ex : x = nI n) (hn : n < 12) (hy : y < 6 ∨ ¬ y ≤ 509) : Met l yB_set wB_set ({ frames := 1, cells := 0, slots := 0, locals := 20 }) (va_Pc [.ref h, .int x, .int y, .int v, .int pl] (fun U => U.heap.size = sz ∧ tk_E dC dI ka U ∧ va_P (dC, dI) clB (dw h dr db lg fa fr fb ka pg pn us di bt dk lf wn rd en fl hd) U.heap ∧ va_D (fun _ => True) (dw h dr db lg fa fr fb ka pg pn us di bt dk lf wn rd en fl hd))) (va_Qi (fun (r : Int32) (_ : Unit) => r = 0) (fun _ t => va_P (dC, dI) clB (dw h dr db lg fa fr fb ka pg pn us di bt dk lf wn rd en fl hd) t.heap) (va_A (dw h dr db lg fa fr fb ka pg pn us di bt dk lf wn rd en fl hd) sz)) 0 0 (va_A (dw h dr db lg fa fr fb ka pg pn us di bt dk lf wn rd en fl hd) sz) := by
  refine Met.ofW (cc := cB_set) (maxL := 5) (ret := (some .boolean)) (by decide) rfl ?_
  intro p e s m args below meth c s₁ B hml hv
  obtain ⟨rfl, hsz, hE, hP, hD0⟩ := hv
  have hx := B.exec
  have hb := B.bytes
  have hr := B.returns
  have hts := atoms_spec (ws := wB_set) B.pre
  have hq : ∀ w ∈ lwg, w.before _ s = true := fun w h => hts w (List.mem_cons_of_mem _ h)
  have hown : s.vm.findClass RB = some m.cls := findClass_of_methodNamed B.named
  have hlocks := B.notSynchronized
  have hK := hE.1
  have hN := hE.2
  subst hsz
  have hD := hD0.self (sz := s.heap.size)
  generalize hAe : va_A (dw h dr db lg fa fr fb ka pg pn us di bt dk lf wn rd en fl hd) s.heap.size = A at hD ⊢
  have hA : ∀ q : Nat, s.heap.size ≤ q → A q := fun q h => by rw [← hAe]; exact Or.inr h
  have hS : va_S A s.heap s.heap [] := va_S.rf
  have hDw := hD
  have hP : va_P (dC, dI) clB (dw h dr db lg fa fr fb ka pg pn us di bt dk lf wn rd en fl hd) s.heap := hP
  have hl := lv_entry ([.ref h, .int x, .int y, .int v, .int pl]) (n := 5) (Nat.le_of_ble_eq_true rfl)
  rw [lg_entry_eq]
  generalize (lg_sl ([.ref h, .int x, .int y, .int v, .int pl]) ++ List.replicate (5 - (lg_sl ([.ref h, .int x, .int y, .int v, .int pl])).length) Slot.unset).toArray = ls at hl ⊢
  have hl : lv_has ls 5 [(0, .ref h), (1, .int x), (2, .int y), (3, .int v), (4, .int pl)] := hl
  refine lv_iload_n hx hb dB_set_0 rfl (lv_at hl 1 rfl) ?_
  refine vp_callSi (va_Run.run (va_runS (As := [.int x]) (rest := []) ⟨hx, hb, hml, hown, hts⟩ (c_B_isFrame l dC dI ka x) (cwS 1 hts (tw_S wi_131 wi_132 wi_24 wi_133) rfl rfl rfl (by decide +kernel) ⟨Nat.le_of_ble_eq_true rfl, Nat.le_of_ble_eq_true rfl⟩) ⟨fun a U g mk q => ⟨q.1, tk_E.call q.2.1, q.2.2⟩, fun U hU hW => ⟨rfl, tk_E.warm hW hE, by rw [hU]; exact (fun k q h => by simp at h)⟩⟩ rfl rfl hl.1 rfl (lv_room (Nat.le_of_ble_eq_true rfl)) dB_set_1 ⟨Nat.zero_le _, Nat.zero_le _⟩)) (fun r_1 er_1 => ?_)
  replace er_1 := er_1.trans (tk_is1 (N := 12) ex hn (by decide))
  subst er_1
  refine lv_if_eq (tgt := 20) hx hb dB_set_4 (by decide) (fun c_2 => ?_) (fun c_2 => ?_)
  · exact absurd c_2 (by decide)
  · refine lv_iload_n hx hb dB_set_7 rfl (lv_at hl 2 rfl) ?_
    refine lv_bipush (v := 6) hx hb dB_set_8 (by decide) ?_
    refine lv_icmp_lt (tgt := 20) hx hb dB_set_10 (by decide) (fun c_3 => ?_) (fun c_3 => ?_)
    · refine lv_iconst (v := 0) hx hb dB_set_20 (by decide) ?_
      exact W.zret (v := 0) (ty := .boolean) hx hb hr rfl (fun t ht hW => ⟨⟨0, (), rfl, rfl, by show va_P _ _ _ t.heap; rw [ht]; exact hP⟩, hS.F ht⟩) hS.2.2 dB_set_21
    · refine lv_iload_n hx hb dB_set_13 rfl (lv_at hl 2 rfl) ?_
      refine lv_sipush (v := 509) hx hb dB_set_14 (by decide) ?_
      refine lv_icmp_le (tgt := 22) hx hb dB_set_17 (by decide) (fun c_4 => ?_) (fun c_4 => ?_)
      · exact absurd c_4 (hy.resolve_left c_3)
      · refine lv_iconst (v := 0) hx hb dB_set_20 (by decide) ?_
        exact W.zret (v := 0) (ty := .boolean) hx hb hr rfl (fun t ht hW => ⟨⟨0, (), rfl, rfl, by show va_P _ _ _ t.heap; rw [ht]; exact hP⟩, hS.F ht⟩) hS.2.2 dB_set_21

set_option maxHeartbeats 4000000 in
set_option maxRecDepth 100000 in
theorem c_B_set_n0 (l : Launch) (dC : Nat → ClassId) (dI : Nat → Nat → Nat) (ka : Nat → ClassId) (sz : Nat) (h dr db lg fa : Nat) (fr fb : Nat → Nat) (pg pn us di : Nat → Int32) (bt : Nat → Nat → Int32) (dk : Nat → Int32) (lf wn rd en fl hd : Int32) (x y v pl : Int32) (n k : Nat) (ex : x = nI n) (hn : n < 12) (ey : y = nI k) (hk1 : 6 ≤ k) (hk2 : k ≤ 509) (hp : pn n ≤ 0) : Met l yB_set wB_set ({ frames := 1, cells := 0, slots := 0, locals := 20 }) (va_Pc [.ref h, .int x, .int y, .int v, .int pl] (fun U => U.heap.size = sz ∧ tk_E dC dI ka U ∧ va_P (dC, dI) clB (dw h dr db lg fa fr fb ka pg pn us di bt dk lf wn rd en fl hd) U.heap ∧ va_D (fun _ => True) (dw h dr db lg fa fr fb ka pg pn us di bt dk lf wn rd en fl hd))) (va_Qi (fun (r : Int32) (_ : Unit) => r = 0) (fun _ t => va_P (dC, dI) clB (dw h dr db lg fa fr fb ka pg pn us di bt dk lf wn rd en fl hd) t.heap) (va_A (dw h dr db lg fa fr fb ka pg pn us di bt dk lf wn rd en fl hd) sz)) 0 0 (va_A (dw h dr db lg fa fr fb ka pg pn us di bt dk lf wn rd en fl hd) sz) := by
  refine Met.ofW (cc := cB_set) (maxL := 5) (ret := (some .boolean)) (by decide) rfl ?_
  intro p e s m args below meth c s₁ B hml hv
  obtain ⟨rfl, hsz, hE, hP, hD0⟩ := hv
  have hx := B.exec
  have hb := B.bytes
  have hr := B.returns
  have hts := atoms_spec (ws := wB_set) B.pre
  have hq : ∀ w ∈ lwg, w.before _ s = true := fun w h => hts w (List.mem_cons_of_mem _ h)
  have hown : s.vm.findClass RB = some m.cls := findClass_of_methodNamed B.named
  have hlocks := B.notSynchronized
  have hK := hE.1
  have hN := hE.2
  subst hsz
  have hD := hD0.self (sz := s.heap.size)
  generalize hAe : va_A (dw h dr db lg fa fr fb ka pg pn us di bt dk lf wn rd en fl hd) s.heap.size = A at hD ⊢
  have hA : ∀ q : Nat, s.heap.size ≤ q → A q := fun q h => by rw [← hAe]; exact Or.inr h
  have hS : va_S A s.heap s.heap [] := va_S.rf
  have hDw := hD
  have hP : va_P (dC, dI) clB (dw h dr db lg fa fr fb ka pg pn us di bt dk lf wn rd en fl hd) s.heap := hP
  have hl := lv_entry ([.ref h, .int x, .int y, .int v, .int pl]) (n := 5) (Nat.le_of_ble_eq_true rfl)
  rw [lg_entry_eq]
  generalize (lg_sl ([.ref h, .int x, .int y, .int v, .int pl]) ++ List.replicate (5 - (lg_sl ([.ref h, .int x, .int y, .int v, .int pl])).length) Slot.unset).toArray = ls at hl ⊢
  have hl : lv_has ls 5 [(0, .ref h), (1, .int x), (2, .int y), (3, .int v), (4, .int pl)] := hl
  refine lv_iload_n hx hb dB_set_0 rfl (lv_at hl 1 rfl) ?_
  refine vp_callSi (va_Run.run (va_runS (As := [.int x]) (rest := []) ⟨hx, hb, hml, hown, hts⟩ (c_B_isFrame l dC dI ka x) (cwS 1 hts (tw_S wi_131 wi_132 wi_24 wi_133) rfl rfl rfl (by decide +kernel) ⟨Nat.le_of_ble_eq_true rfl, Nat.le_of_ble_eq_true rfl⟩) ⟨fun a U g mk q => ⟨q.1, tk_E.call q.2.1, q.2.2⟩, fun U hU hW => ⟨rfl, tk_E.warm hW hE, by rw [hU]; exact (fun k q h => by simp at h)⟩⟩ rfl rfl hl.1 rfl (lv_room (Nat.le_of_ble_eq_true rfl)) dB_set_1 ⟨Nat.zero_le _, Nat.zero_le _⟩)) (fun r_1 er_1 => ?_)
  replace er_1 := er_1.trans (tk_is1 (N := 12) ex hn (by decide))
  subst er_1
  refine lv_if_eq (tgt := 20) hx hb dB_set_4 (by decide) (fun c_2 => ?_) (fun c_2 => ?_)
  · exact absurd c_2 (by decide)
  · refine lv_iload_n hx hb dB_set_7 rfl (lv_at hl 2 rfl) ?_
    refine lv_bipush (v := 6) hx hb dB_set_8 (by decide) ?_
    refine lv_icmp_lt (tgt := 20) hx hb dB_set_10 (by decide) (fun c_3 => ?_) (fun c_3 => ?_)
    · exact absurd c_3 (by rw [ey]; exact nI_nlt (b := 6) hk1 (by omega))
    · refine lv_iload_n hx hb dB_set_13 rfl (lv_at hl 2 rfl) ?_
      refine lv_sipush (v := 509) hx hb dB_set_14 (by decide) ?_
      refine lv_icmp_le (tgt := 22) hx hb dB_set_17 (by decide) (fun c_4 => ?_) (fun c_4 => ?_)
      · refine lv_aload_n hx hb dB_set_22 rfl (lv_at hl 0 rfl) ?_
        refine va_get (D := (dC, dI)) (ci := 3) (v := .ref fa) (C := RB) (T := TB) (N := 4) hx hb hts (inC inB) hown hK hP 0 rfl rfl 2 (by decide) (hq _ wi_116) (fun _ h9 => h9) rfl dB_set_23 ?_
        refine lv_iload_n hx hb dB_set_26 rfl (lv_at hl 1 rfl) ?_
        refine tk_aald (n := n) (y := fr n) hx hb hK hP 4 1 rfl rfl ex hn (by decide) rfl dB_set_27 ?_
        refine vp_callSi (va_Run.run (va_runV (As := []) (rest := []) ⟨hx, hb, hml, hown, hts⟩ (c_F_hasPins l dC dI ka (fr n) (fb n) (pg n) (pn n) (us n) (di n)) (cwV 0 hts (tw_V wi_134 wi_135 wi_136 wi_27 wi_137) rfl rfl rfl (by decide +kernel) ⟨Nat.le_of_ble_eq_true rfl, Nat.le_of_ble_eq_true rfl⟩) ⟨fun a U g mk q => ⟨q.1, tk_E.call q.2.1, q.2.2⟩, va_recv hK hP (ci := 1) (q0 := (5 + n)) rfl (dw_fr hn), fun U hU hW => ⟨rfl, tk_E.warm hW hE, by rw [hU]; exact (tk_one hP (k := 5 + n) (dw_fr hn))⟩⟩ rfl rfl hl.1 rfl (lv_room (Nat.le_of_ble_eq_true rfl)) dB_set_28 ⟨Nat.zero_le _, Nat.zero_le _⟩)) (fun r_5 er_5 => ?_)
        replace er_5 := er_5.trans (if_pos hp)
        subst er_5
        refine lv_if_eq (tgt := 48) hx hb dB_set_31 (by decide) (fun c_6 => ?_) (fun c_6 => ?_)
        · refine lv_iconst (v := 0) hx hb dB_set_48 (by decide) ?_
          exact W.zret (v := 0) (ty := .boolean) hx hb hr rfl (fun t ht hW => ⟨⟨0, (), rfl, rfl, by show va_P _ _ _ t.heap; rw [ht]; exact hP⟩, hS.F ht⟩) hS.2.2 dB_set_49
        · exact absurd c_6 (by decide)
      · exact absurd (by rw [ey]; exact nI_le (b := 509) hk2 (by decide)) c_4

set_option maxHeartbeats 4000000 in
set_option maxRecDepth 100000 in
theorem c_B_set_p0 (l : Launch) (dC : Nat → ClassId) (dI : Nat → Nat → Nat) (ka : Nat → ClassId) (sz : Nat) (h dr db lg fa : Nat) (fr fb : Nat → Nat) (pg pn us di : Nat → Int32) (bt : Nat → Nat → Int32) (dk : Nat → Int32) (lf wn rd en fl hd : Int32) (x y v pl : Int32) (n k : Nat) (ex : x = nI n) (hn : n < 12) (ey : y = nI k) (hk1 : 6 ≤ k) (hk2 : k ≤ 509) (hp : ¬ pn n ≤ 0) (hpl : ¬ plB (bt n) ≤ pl) : Met l yB_set wB_set ({ frames := 2, cells := 0, slots := 0, locals := 41 }) (va_Pc [.ref h, .int x, .int y, .int v, .int pl] (fun U => U.heap.size = sz ∧ tk_E dC dI ka U ∧ va_P (dC, dI) clB (dw h dr db lg fa fr fb ka pg pn us di bt dk lf wn rd en fl hd) U.heap ∧ va_D (fun _ => True) (dw h dr db lg fa fr fb ka pg pn us di bt dk lf wn rd en fl hd))) (va_Qi (fun (r : Int32) (_ : Unit) => r = 0) (fun _ t => va_P (dC, dI) clB (dw h dr db lg fa fr fb ka pg pn us di bt dk lf wn rd en fl hd) t.heap) (va_A (dw h dr db lg fa fr fb ka pg pn us di bt dk lf wn rd en fl hd) sz)) 0 0 (va_A (dw h dr db lg fa fr fb ka pg pn us di bt dk lf wn rd en fl hd) sz) := by
  refine Met.ofW (cc := cB_set) (maxL := 5) (ret := (some .boolean)) (by decide) rfl ?_
  intro p e s m args below meth c s₁ B hml hv
  obtain ⟨rfl, hsz, hE, hP, hD0⟩ := hv
  have hx := B.exec
  have hb := B.bytes
  have hr := B.returns
  have hts := atoms_spec (ws := wB_set) B.pre
  have hq : ∀ w ∈ lwg, w.before _ s = true := fun w h => hts w (List.mem_cons_of_mem _ h)
  have hown : s.vm.findClass RB = some m.cls := findClass_of_methodNamed B.named
  have hlocks := B.notSynchronized
  have hK := hE.1
  have hN := hE.2
  subst hsz
  have hD := hD0.self (sz := s.heap.size)
  generalize hAe : va_A (dw h dr db lg fa fr fb ka pg pn us di bt dk lf wn rd en fl hd) s.heap.size = A at hD ⊢
  have hA : ∀ q : Nat, s.heap.size ≤ q → A q := fun q h => by rw [← hAe]; exact Or.inr h
  have hS : va_S A s.heap s.heap [] := va_S.rf
  have hDw := hD
  have hP : va_P (dC, dI) clB (dw h dr db lg fa fr fb ka pg pn us di bt dk lf wn rd en fl hd) s.heap := hP
  have hl := lv_entry ([.ref h, .int x, .int y, .int v, .int pl]) (n := 5) (Nat.le_of_ble_eq_true rfl)
  rw [lg_entry_eq]
  generalize (lg_sl ([.ref h, .int x, .int y, .int v, .int pl]) ++ List.replicate (5 - (lg_sl ([.ref h, .int x, .int y, .int v, .int pl])).length) Slot.unset).toArray = ls at hl ⊢
  have hl : lv_has ls 5 [(0, .ref h), (1, .int x), (2, .int y), (3, .int v), (4, .int pl)] := hl
  refine lv_iload_n hx hb dB_set_0 rfl (lv_at hl 1 rfl) ?_
  refine vp_callSi (va_Run.run (va_runS (As := [.int x]) (rest := []) ⟨hx, hb, hml, hown, hts⟩ (c_B_isFrame l dC dI ka x) (cwS 1 hts (tw_S wi_131 wi_132 wi_24 wi_133) rfl rfl rfl (by decide +kernel) ⟨Nat.le_of_ble_eq_true rfl, Nat.le_of_ble_eq_true rfl⟩) ⟨fun a U g mk q => ⟨q.1, tk_E.call q.2.1, q.2.2⟩, fun U hU hW => ⟨rfl, tk_E.warm hW hE, by rw [hU]; exact (fun k q h => by simp at h)⟩⟩ rfl rfl hl.1 rfl (lv_room (Nat.le_of_ble_eq_true rfl)) dB_set_1 ⟨Nat.zero_le _, Nat.zero_le _⟩)) (fun r_1 er_1 => ?_)
  replace er_1 := er_1.trans (tk_is1 (N := 12) ex hn (by decide))
  subst er_1
  refine lv_if_eq (tgt := 20) hx hb dB_set_4 (by decide) (fun c_2 => ?_) (fun c_2 => ?_)
  · exact absurd c_2 (by decide)
  · refine lv_iload_n hx hb dB_set_7 rfl (lv_at hl 2 rfl) ?_
    refine lv_bipush (v := 6) hx hb dB_set_8 (by decide) ?_
    refine lv_icmp_lt (tgt := 20) hx hb dB_set_10 (by decide) (fun c_3 => ?_) (fun c_3 => ?_)
    · exact absurd c_3 (by rw [ey]; exact nI_nlt (b := 6) hk1 (by omega))
    · refine lv_iload_n hx hb dB_set_13 rfl (lv_at hl 2 rfl) ?_
      refine lv_sipush (v := 509) hx hb dB_set_14 (by decide) ?_
      refine lv_icmp_le (tgt := 22) hx hb dB_set_17 (by decide) (fun c_4 => ?_) (fun c_4 => ?_)
      · refine lv_aload_n hx hb dB_set_22 rfl (lv_at hl 0 rfl) ?_
        refine va_get (D := (dC, dI)) (ci := 3) (v := .ref fa) (C := RB) (T := TB) (N := 4) hx hb hts (inC inB) hown hK hP 0 rfl rfl 2 (by decide) (hq _ wi_116) (fun _ h9 => h9) rfl dB_set_23 ?_
        refine lv_iload_n hx hb dB_set_26 rfl (lv_at hl 1 rfl) ?_
        refine tk_aald (n := n) (y := fr n) hx hb hK hP 4 1 rfl rfl ex hn (by decide) rfl dB_set_27 ?_
        refine vp_callSi (va_Run.run (va_runV (As := []) (rest := []) ⟨hx, hb, hml, hown, hts⟩ (c_F_hasPins l dC dI ka (fr n) (fb n) (pg n) (pn n) (us n) (di n)) (cwV 0 hts (tw_V wi_134 wi_135 wi_136 wi_27 wi_137) rfl rfl rfl (by decide +kernel) ⟨Nat.le_of_ble_eq_true rfl, Nat.le_of_ble_eq_true rfl⟩) ⟨fun a U g mk q => ⟨q.1, tk_E.call q.2.1, q.2.2⟩, va_recv hK hP (ci := 1) (q0 := (5 + n)) rfl (dw_fr hn), fun U hU hW => ⟨rfl, tk_E.warm hW hE, by rw [hU]; exact (tk_one hP (k := 5 + n) (dw_fr hn))⟩⟩ rfl rfl hl.1 rfl (lv_room (Nat.le_of_ble_eq_true rfl)) dB_set_28 ⟨Nat.zero_le _, Nat.zero_le _⟩)) (fun r_5 er_5 => ?_)
        replace er_5 := er_5.trans (if_neg hp)
        subst er_5
        refine lv_if_eq (tgt := 48) hx hb dB_set_31 (by decide) (fun c_6 => ?_) (fun c_6 => ?_)
        · exact absurd c_6 (by decide)
        · refine lv_iload hx hb dB_set_34 (lv_at hl 4 rfl) ?_
          refine lv_aload_n hx hb dB_set_36 rfl (lv_at hl 0 rfl) ?_
          refine va_get (D := (dC, dI)) (ci := 3) (v := .ref fa) (C := RB) (T := TB) (N := 4) hx hb hts (inC inB) hown hK hP 0 rfl rfl 2 (by decide) (hq _ wi_116) (fun _ h9 => h9) rfl dB_set_37 ?_
          refine lv_iload_n hx hb dB_set_40 rfl (lv_at hl 1 rfl) ?_
          refine tk_aald (n := n) (y := fr n) hx hb hK hP 4 1 rfl rfl ex hn (by decide) rfl dB_set_41 ?_
          refine vp_callSi (va_Run.run (va_runV (As := []) (rest := [.int pl]) ⟨hx, hb, hml, hown, hts⟩ (c_F_place l dC dI ka (fr n) (fb n) (pg n) (pn n) (us n) (di n) (bt n)) (cwV 0 hts (tw_V wi_157 wi_158 wi_159 wi_27 wi_160) rfl rfl rfl (by decide +kernel) ⟨Nat.le_of_ble_eq_true rfl, Nat.le_of_ble_eq_true rfl⟩) ⟨fun a U g mk q => ⟨q.1, tk_E.call q.2.1, q.2.2⟩, va_recv hK hP (ci := 1) (q0 := (5 + n)) rfl (dw_fr hn), fun U hU hW => ⟨rfl, tk_E.warm hW hE, by rw [hU]; exact (tk_two hP (k := 5 + n) (k' := 17 + n) (dw_fr hn) (dw_fb hn))⟩⟩ rfl rfl hl.1 rfl (lv_room (Nat.le_of_ble_eq_true rfl)) dB_set_42 ⟨Nat.zero_le _, Nat.zero_le _⟩)) (fun r_7 er_7 => ?_)
          subst er_7
          refine lv_icmp_ge (tgt := 50) hx hb dB_set_45 (by decide) (fun c_8 => ?_) (fun c_8 => ?_)
          · exact absurd c_8 hpl
          · refine lv_iconst (v := 0) hx hb dB_set_48 (by decide) ?_
            exact W.zret (v := 0) (ty := .boolean) hx hb hr rfl (fun t ht hW => ⟨⟨0, (), rfl, rfl, by show va_P _ _ _ t.heap; rw [ht]; exact hP⟩, hS.F ht⟩) hS.2.2 dB_set_49
      · exact absurd (by rw [ey]; exact nI_le (b := 509) hk2 (by decide)) c_4

set_option maxHeartbeats 4000000 in
set_option maxRecDepth 100000 in
theorem c_B_set_in (l : Launch) (dC : Nat → ClassId) (dI : Nat → Nat → Nat) (ka : Nat → ClassId) (sz : Nat) (h dr db lg fa : Nat) (fr fb : Nat → Nat) (pg pn us di : Nat → Int32) (bt : Nat → Nat → Int32) (dk : Nat → Int32) (lf wn rd en fl hd : Int32) (x y v pl : Int32) (n k : Nat) (ex : x = nI n) (hn : n < 12) (ey : y = nI k) (hk1 : 6 ≤ k) (hk2 : k ≤ 509) (hp : ¬ pn n ≤ 0) (hpl : plB (bt n) ≤ pl) : Met l yB_set wB_set ({ frames := 2, cells := 0, slots := 0, locals := 41 }) (va_Pc [.ref h, .int x, .int y, .int v, .int pl] (fun U => U.heap.size = sz ∧ tk_E dC dI ka U ∧ va_P (dC, dI) clB (dw h dr db lg fa fr fb ka pg pn us di bt dk lf wn rd en fl hd) U.heap ∧ va_D (fun _ => True) (dw h dr db lg fa fr fb ka pg pn us di bt dk lf wn rd en fl hd))) (va_Qi (fun (r : Int32) (_ : Unit) => r = 1) (fun _ t => va_P (dC, dI) clB (dw h dr db lg fa fr fb ka pg pn us (upd di n 1) (va_up bt n (chB (bt n) k v pl)) dk lf wn rd en fl hd) t.heap) (va_A (dw h dr db lg fa fr fb ka pg pn us di bt dk lf wn rd en fl hd) sz)) 0 0 (va_A (dw h dr db lg fa fr fb ka pg pn us di bt dk lf wn rd en fl hd) sz) := by
  refine Met.ofW (cc := cB_set) (maxL := 5) (ret := (some .boolean)) (by decide) rfl ?_
  intro p e s m args below meth c s₁ B hml hv
  obtain ⟨rfl, hsz, hE, hP, hD0⟩ := hv
  have hx := B.exec
  have hb := B.bytes
  have hr := B.returns
  have hts := atoms_spec (ws := wB_set) B.pre
  have hq : ∀ w ∈ lwg, w.before _ s = true := fun w h => hts w (List.mem_cons_of_mem _ h)
  have hown : s.vm.findClass RB = some m.cls := findClass_of_methodNamed B.named
  have hlocks := B.notSynchronized
  have hK := hE.1
  have hN := hE.2
  subst hsz
  have hD := hD0.self (sz := s.heap.size)
  generalize hAe : va_A (dw h dr db lg fa fr fb ka pg pn us di bt dk lf wn rd en fl hd) s.heap.size = A at hD ⊢
  have hA : ∀ q : Nat, s.heap.size ≤ q → A q := fun q h => by rw [← hAe]; exact Or.inr h
  have hS : va_S A s.heap s.heap [] := va_S.rf
  have hDw := hD
  have hP : va_P (dC, dI) clB (dw h dr db lg fa fr fb ka pg pn us di bt dk lf wn rd en fl hd) s.heap := hP
  have hl := lv_entry ([.ref h, .int x, .int y, .int v, .int pl]) (n := 5) (Nat.le_of_ble_eq_true rfl)
  rw [lg_entry_eq]
  generalize (lg_sl ([.ref h, .int x, .int y, .int v, .int pl]) ++ List.replicate (5 - (lg_sl ([.ref h, .int x, .int y, .int v, .int pl])).length) Slot.unset).toArray = ls at hl ⊢
  have hl : lv_has ls 5 [(0, .ref h), (1, .int x), (2, .int y), (3, .int v), (4, .int pl)] := hl
  refine lv_iload_n hx hb dB_set_0 rfl (lv_at hl 1 rfl) ?_
  refine vp_callSi (va_Run.run (va_runS (As := [.int x]) (rest := []) ⟨hx, hb, hml, hown, hts⟩ (c_B_isFrame l dC dI ka x) (cwS 1 hts (tw_S wi_131 wi_132 wi_24 wi_133) rfl rfl rfl (by decide +kernel) ⟨Nat.le_of_ble_eq_true rfl, Nat.le_of_ble_eq_true rfl⟩) ⟨fun a U g mk q => ⟨q.1, tk_E.call q.2.1, q.2.2⟩, fun U hU hW => ⟨rfl, tk_E.warm hW hE, by rw [hU]; exact (fun k q h => by simp at h)⟩⟩ rfl rfl hl.1 rfl (lv_room (Nat.le_of_ble_eq_true rfl)) dB_set_1 ⟨Nat.zero_le _, Nat.zero_le _⟩)) (fun r_1 er_1 => ?_)
  replace er_1 := er_1.trans (tk_is1 (N := 12) ex hn (by decide))
  subst er_1
  refine lv_if_eq (tgt := 20) hx hb dB_set_4 (by decide) (fun c_2 => ?_) (fun c_2 => ?_)
  · exact absurd c_2 (by decide)
  · refine lv_iload_n hx hb dB_set_7 rfl (lv_at hl 2 rfl) ?_
    refine lv_bipush (v := 6) hx hb dB_set_8 (by decide) ?_
    refine lv_icmp_lt (tgt := 20) hx hb dB_set_10 (by decide) (fun c_3 => ?_) (fun c_3 => ?_)
    · exact absurd c_3 (by rw [ey]; exact nI_nlt (b := 6) hk1 (by omega))
    · refine lv_iload_n hx hb dB_set_13 rfl (lv_at hl 2 rfl) ?_
      refine lv_sipush (v := 509) hx hb dB_set_14 (by decide) ?_
      refine lv_icmp_le (tgt := 22) hx hb dB_set_17 (by decide) (fun c_4 => ?_) (fun c_4 => ?_)
      · refine lv_aload_n hx hb dB_set_22 rfl (lv_at hl 0 rfl) ?_
        refine va_get (D := (dC, dI)) (ci := 3) (v := .ref fa) (C := RB) (T := TB) (N := 4) hx hb hts (inC inB) hown hK hP 0 rfl rfl 2 (by decide) (hq _ wi_116) (fun _ h9 => h9) rfl dB_set_23 ?_
        refine lv_iload_n hx hb dB_set_26 rfl (lv_at hl 1 rfl) ?_
        refine tk_aald (n := n) (y := fr n) hx hb hK hP 4 1 rfl rfl ex hn (by decide) rfl dB_set_27 ?_
        refine vp_callSi (va_Run.run (va_runV (As := []) (rest := []) ⟨hx, hb, hml, hown, hts⟩ (c_F_hasPins l dC dI ka (fr n) (fb n) (pg n) (pn n) (us n) (di n)) (cwV 0 hts (tw_V wi_134 wi_135 wi_136 wi_27 wi_137) rfl rfl rfl (by decide +kernel) ⟨Nat.le_of_ble_eq_true rfl, Nat.le_of_ble_eq_true rfl⟩) ⟨fun a U g mk q => ⟨q.1, tk_E.call q.2.1, q.2.2⟩, va_recv hK hP (ci := 1) (q0 := (5 + n)) rfl (dw_fr hn), fun U hU hW => ⟨rfl, tk_E.warm hW hE, by rw [hU]; exact (tk_one hP (k := 5 + n) (dw_fr hn))⟩⟩ rfl rfl hl.1 rfl (lv_room (Nat.le_of_ble_eq_true rfl)) dB_set_28 ⟨Nat.zero_le _, Nat.zero_le _⟩)) (fun r_5 er_5 => ?_)
        replace er_5 := er_5.trans (if_neg hp)
        subst er_5
        refine lv_if_eq (tgt := 48) hx hb dB_set_31 (by decide) (fun c_6 => ?_) (fun c_6 => ?_)
        · exact absurd c_6 (by decide)
        · refine lv_iload hx hb dB_set_34 (lv_at hl 4 rfl) ?_
          refine lv_aload_n hx hb dB_set_36 rfl (lv_at hl 0 rfl) ?_
          refine va_get (D := (dC, dI)) (ci := 3) (v := .ref fa) (C := RB) (T := TB) (N := 4) hx hb hts (inC inB) hown hK hP 0 rfl rfl 2 (by decide) (hq _ wi_116) (fun _ h9 => h9) rfl dB_set_37 ?_
          refine lv_iload_n hx hb dB_set_40 rfl (lv_at hl 1 rfl) ?_
          refine tk_aald (n := n) (y := fr n) hx hb hK hP 4 1 rfl rfl ex hn (by decide) rfl dB_set_41 ?_
          refine vp_callSi (va_Run.run (va_runV (As := []) (rest := [.int pl]) ⟨hx, hb, hml, hown, hts⟩ (c_F_place l dC dI ka (fr n) (fb n) (pg n) (pn n) (us n) (di n) (bt n)) (cwV 0 hts (tw_V wi_157 wi_158 wi_159 wi_27 wi_160) rfl rfl rfl (by decide +kernel) ⟨Nat.le_of_ble_eq_true rfl, Nat.le_of_ble_eq_true rfl⟩) ⟨fun a U g mk q => ⟨q.1, tk_E.call q.2.1, q.2.2⟩, va_recv hK hP (ci := 1) (q0 := (5 + n)) rfl (dw_fr hn), fun U hU hW => ⟨rfl, tk_E.warm hW hE, by rw [hU]; exact (tk_two hP (k := 5 + n) (k' := 17 + n) (dw_fr hn) (dw_fb hn))⟩⟩ rfl rfl hl.1 rfl (lv_room (Nat.le_of_ble_eq_true rfl)) dB_set_42 ⟨Nat.zero_le _, Nat.zero_le _⟩)) (fun r_7 er_7 => ?_)
          subst er_7
          refine lv_icmp_ge (tgt := 50) hx hb dB_set_45 (by decide) (fun c_8 => ?_) (fun c_8 => ?_)
          · refine lv_aload_n hx hb dB_set_50 rfl (lv_at hl 0 rfl) ?_
            refine va_get (D := (dC, dI)) (ci := 3) (v := .ref fa) (C := RB) (T := TB) (N := 4) hx hb hts (inC inB) hown hK hP 0 rfl rfl 2 (by decide) (hq _ wi_116) (fun _ h9 => h9) rfl dB_set_51 ?_
            refine lv_iload_n hx hb dB_set_54 rfl (lv_at hl 1 rfl) ?_
            refine tk_aald (n := n) (y := fr n) hx hb hK hP 4 1 rfl rfl ex hn (by decide) rfl dB_set_55 ?_
            refine lv_iload_n hx hb dB_set_56 rfl (lv_at hl 2 rfl) ?_
            refine lv_iload_n hx hb dB_set_57 rfl (lv_at hl 3 rfl) ?_
            refine lv_iload hx hb dB_set_58 (lv_at hl 4 rfl) ?_
            have hFc := tk_free2 (k := 5 + n) (k' := 17 + n) hD hS hA (dw_fr hn) (dw_fb hn)
            refine va_callv (va_runV (As := [.int y, .int v, .int pl]) (rest := []) ⟨hx, hb, hml, hown, hts⟩ (c_F_change l dC dI ka _ (fr n) (fb n) (pg n) (pn n) (us n) (di n) (bt n) y v pl k ey (by omega)) (cwV 3 hts (tw_V wi_164 wi_165 wi_166 wi_27 wi_167) rfl rfl rfl (by decide +kernel) ⟨Nat.le_of_ble_eq_true rfl, Nat.le_of_ble_eq_true rfl⟩) ⟨fun a U g mk q => ⟨q.1, q.2.1, tk_E.call q.2.2.1, q.2.2.2⟩, va_recv hK hP (ci := 1) (q0 := (5 + n)) rfl (dw_fr hn), fun U hU hW => ⟨rfl, by rw [hU], tk_E.warm hW hE, by rw [hU]; exact (tk_two hP (k := 5 + n) (k' := 17 + n) (dw_fr hn) (dw_fb hn)), (tk_dtwo hD (k := 5 + n) (k' := 17 + n) (dw_fr hn) (dw_fb hn) (by omega))⟩⟩ rfl rfl hl.1 rfl (lv_room (Nat.le_of_ble_eq_true rfl)) dB_set_60 ⟨Nat.zero_le _, Nat.zero_le _⟩) hS (fun q _ h => hFc q h) hFc (fun u_9 t H1 locs ht hvm hw hB hz1 hk1 hS => ?_)
            have hB : va_P (dC, dI) clB [((fr n), .inr (1, [.ref (fb n), .int (pg n), .int (pn n), .int (us n), .int 1])), ((fb n), .inl (ka 0, 512, .inl (chB (bt n) k v pl)))] H1 := by rw [← ht]; exact hB
            obtain ⟨hP, hD⟩ := tk_join2 (k := 5 + n) (k' := 17 + n) hP hD (dw_fr hn) (dw_fb hn) (by omega) hk1 hB
            generalize H1 = H at hP hS ⊢
            have hP : va_P (dC, dI) clB (dw h dr db lg fa fr fb ka pg pn us (upd di n 1) (va_up bt n (chB (bt n) k v pl)) dk lf wn rd en fl hd) H := (by rw [← dw_set_fb hn, ← dw_set_d hn]; exact hP)
            have hD : va_D A (dw h dr db lg fa fr fb ka pg pn us (upd di n 1) (va_up bt n (chB (bt n) k v pl)) dk lf wn rd en fl hd) := dw_D hDw
            refine lv_iconst (v := 1) hx hb dB_set_63 (by decide) ?_
            exact W.zret (v := 1) (ty := .boolean) hx hb hr rfl (fun t ht hW => ⟨⟨1, (), rfl, rfl, by show va_P _ _ _ t.heap; rw [ht]; exact hP⟩, hS.F ht⟩) hS.2.2 dB_set_64
          · exact absurd hpl c_8
      · exact absurd (by rw [ey]; exact nI_le (b := 509) hk2 (by decide)) c_4

/-- the frame behind -/
def nxt (h : Nat) : Nat := if h + 1 < 12 then h + 1 else 0
theorem nxt_lt {h : Nat} : nxt h < 12 := by unfold nxt; split <;> omega
theorem nxt_nI {h : Nat} (hh : h < 12) : (if (12 : Int32) ≤ nI h + 1 then (0 : Int32) else nI h + 1) = nI (nxt h) := by
  rw [nI_1]
  unfold nxt
  show (if nI 12 ≤ nI (h + 1) then (0 : Int32) else nI (h + 1)) = _
  by_cases g : h + 1 < 12
  · rw [if_neg (nI_ge (b := 12) g (by decide)), if_pos g]
  · rw [if_pos (nI_le (a := 12) (b := h + 1) (by omega) (by omega)), if_neg g]
    rfl
/-- the hand's way: k steps at most -/
def hbU (pn : Nat → Int32) : Nat → (Nat → Int32) × Nat → (Nat → Int32) × Nat
  | 0, s => s
  | k + 1, s => if pn s.2 = 0 ∧ s.1 s.2 = 0 then s else hbU pn k (upd s.1 s.2 (if pn s.2 = 0 then (if s.1 s.2 ≤ 0 then s.1 s.2 else s.1 s.2 - 1) else s.1 s.2), nxt s.2)
theorem hbU_succ (pn : Nat → Int32) (k : Nat) (s : (Nat → Int32) × Nat) : hbU pn (k + 1) s = if pn s.2 = 0 ∧ s.1 s.2 = 0 then s else hbU pn k (upd s.1 s.2 (if pn s.2 = 0 then (if s.1 s.2 ≤ 0 then s.1 s.2 else s.1 s.2 - 1) else s.1 s.2), nxt s.2) := rfl
theorem hbU_lt (pn : Nat → Int32) : ∀ (k : Nat) (s : (Nat → Int32) × Nat), s.2 < 12 → (hbU pn k s).2 < 12
  | 0, s, h => h
  | k + 1, s, h => by
    unfold hbU
    split
    · exact h
    · exact hbU_lt pn k _ nxt_lt
theorem tk_can {a b : Int32} (h : ¬ (if a = 0 then (if b = 0 then (1 : Int32) else 0) else 0) = 0) : a = 0 ∧ b = 0 := by
  by_cases ha : a = 0
  · by_cases hb : b = 0
    · exact ⟨ha, hb⟩
    · simp [ha, hb] at h
  · simp [ha] at h
theorem tk_cannot {a b : Int32} (h : (if a = 0 then (if b = 0 then (1 : Int32) else 0) else 0) = 0) : ¬ (a = 0 ∧ b = 0) := by
  rintro ⟨ha, hb⟩
  simp [ha, hb] at h

set_option maxHeartbeats 4000000 in
set_option maxRecDepth 100000 in
theorem c_B_frameByHand (l : Launch) (dC : Nat → ClassId) (dI : Nat → Nat → Nat) (ka : Nat → ClassId) (sz : Nat) (h dr db lg fa : Nat) (fr fb : Nat → Nat) (pg pn us di : Nat → Int32) (bt : Nat → Nat → Int32) (dk : Nat → Int32) (lf wn rd en fl : Int32) (q : Nat) (hq0 : q < 12) : Met l yB_frameByHand wB_frameByHand ({ frames := 1, cells := 0, slots := 0, locals := 20 }) (va_Pc [.ref h] (fun U => U.heap.size = sz ∧ tk_E dC dI ka U ∧ va_P (dC, dI) clB (dw h dr db lg fa fr fb ka pg pn us di bt dk lf wn rd en fl (nI q)) U.heap ∧ va_D (fun _ => True) (dw h dr db lg fa fr fb ka pg pn us di bt dk lf wn rd en fl (nI q)))) (va_Qi (fun (r : Int32) (_ : Unit) => r = nI (hbU pn 48 (us, q)).2) (fun _ t => va_P (dC, dI) clB (dw h dr db lg fa fr fb ka pg pn ((hbU pn 48 (us, q)).1) di bt dk lf wn rd en fl (nI (nxt (hbU pn 48 (us, q)).2))) t.heap) (va_A (dw h dr db lg fa fr fb ka pg pn us di bt dk lf wn rd en fl (nI q)) sz)) 0 0 (va_A (dw h dr db lg fa fr fb ka pg pn us di bt dk lf wn rd en fl (nI q)) sz) := by
  refine Met.ofW (cc := cB_frameByHand) (maxL := 2) (ret := (some .int)) (by decide) rfl ?_
  intro p e s m args below meth c s₁ B hml hv
  obtain ⟨rfl, hsz, hE, hP, hD0⟩ := hv
  have hx := B.exec
  have hb := B.bytes
  have hr := B.returns
  have hts := atoms_spec (ws := wB_frameByHand) B.pre
  have hq : ∀ w ∈ lwg, w.before _ s = true := fun w h => hts w (List.mem_cons_of_mem _ h)
  have hown : s.vm.findClass RB = some m.cls := findClass_of_methodNamed B.named
  have hlocks := B.notSynchronized
  have hK := hE.1
  have hN := hE.2
  subst hsz
  have hD := hD0.self (sz := s.heap.size)
  generalize hAe : va_A (dw h dr db lg fa fr fb ka pg pn us di bt dk lf wn rd en fl (nI q)) s.heap.size = A at hD ⊢
  have hA : ∀ q : Nat, s.heap.size ≤ q → A q := fun q h => by rw [← hAe]; exact Or.inr h
  have hS : va_S A s.heap s.heap [] := va_S.rf
  have hDw := hD
  have hP : va_P (dC, dI) clB (dw h dr db lg fa fr fb ka pg pn us di bt dk lf wn rd en fl (nI q)) s.heap := hP
  have hl := lv_entry ([.ref h]) (n := 2) (Nat.le_of_ble_eq_true rfl)
  rw [lg_entry_eq]
  generalize (lg_sl ([.ref h]) ++ List.replicate (2 - (lg_sl ([.ref h])).length) Slot.unset).toArray = ls at hl ⊢
  have hl : lv_has ls 2 [(0, .ref h)] := hl
  refine lv_iconst (v := 0) hx hb dB_frameByHand_0 (by decide) ?_
  refine lv_istore_n (lv' := [(1, .int 0), (0, .ref h)]) hx hb dB_frameByHand_1 rfl hl (by decide) rfl (fun ls hl => ?_)
  refine tk_loop 2 (fun (n : Nat) (y : Nat × ((Nat → Int32) × Nat)) H locs ls => (y.1 ≤ 48) ∧ (n = 48 - y.1) ∧ (y.2.2 < 12) ∧ ((hbU pn 48 (us, q)) = hbU pn (48 - y.1) y.2) ∧ va_P (dC, dI) clB (dw h dr db lg fa fr fb ka pg pn y.2.1 di bt dk lf wn rd en fl (nI y.2.2)) H ∧ va_D A (dw h dr db lg fa fr fb ka pg pn y.2.1 di bt dk lf wn rd en fl (nI y.2.2)) ∧ va_S A s.heap H locs ∧ lv_has ls 2 [(0, .ref h), (1, .int (nI y.1))]) ?_ 48 (0, (us, q)) ⟨Nat.zero_le _, rfl, hq0, rfl, hP, hD, hS, lv_sub hl [1, 0] rfl⟩
  skip
  intro n y H locs ls hI ih
  obtain ⟨hi, hn, hy2, heq, hP, hD, hS, hl⟩ := hI
  refine lv_iload_n hx hb dB_frameByHand_2 rfl (lv_at hl 1 rfl) ?_
  refine lv_bipush (v := 48) hx hb dB_frameByHand_3 (by decide) ?_
  refine lv_icmp_ge (tgt := 52) hx hb dB_frameByHand_5 (by decide) (fun c_1 => ?_) (fun c_1 => ?_)
  · have hfin : (hbU pn 48 (us, q)) = y.2 := by rw [heq, show 48 - y.1 = 0 by (have := (nI_leI (a := 48) (b := y.1) (by decide) (by omega)).mp c_1; omega)]; rfl
    refine lv_aload_n hx hb dB_frameByHand_52 rfl (lv_at hl 0 rfl) ?_
    refine va_get (D := (dC, dI)) (ci := 3) (v := .int (nI y.2.2)) (C := RB) (T := TB) (N := 4) hx hb hts (inC inB) hown hK hP 0 rfl rfl 3 (by decide) (hq _ wi_117) (fun _ h9 => h9) rfl dB_frameByHand_53 ?_
    refine lv_istore_n (lv' := [(1, .int (nI y.2.2)), (0, .ref h)]) hx hb dB_frameByHand_56 rfl hl (by decide) rfl (fun ls hl => ?_)
    refine lv_aload_n hx hb dB_frameByHand_57 rfl (lv_at hl 1 rfl) ?_
    refine lv_iload_n hx hb dB_frameByHand_58 rfl (lv_at hl 0 rfl) ?_
    refine vp_callSi (va_Run.run (va_runS (As := [.int (nI y.2.2)]) (rest := [.ref h]) ⟨hx, hb, hml, hown, hts⟩ (c_B_frameBehind l dC dI ka (nI y.2.2)) (cwS 1 hts (tw_S wi_354 wi_355 wi_24 wi_356) rfl rfl rfl (by decide +kernel) ⟨Nat.le_of_ble_eq_true rfl, Nat.le_of_ble_eq_true rfl⟩) ⟨fun a U g mk q => ⟨q.1, tk_E.call q.2.1, q.2.2⟩, fun U hU hW => ⟨rfl, tk_E.warm hW hE, by rw [hU]; exact (fun k q h => by simp at h)⟩⟩ rfl rfl hl.1 rfl (lv_room (Nat.le_of_ble_eq_true rfl)) dB_frameByHand_59 ⟨Nat.zero_le _, Nat.zero_le _⟩)) (fun r_2 er_2 => ?_)
    replace er_2 := er_2.trans (nxt_nI hy2)
    subst er_2
    refine va_put (D := (dC, dI)) (ci := 3) (v := .int (nI (nxt y.2.2))) (ty := .int) (C := RB) (T := TB) (N := 4) hx hb hts (inC inB) tyB tyB_ok nmB hown hK hP hD hS 0 rfl rfl 3 (by decide) (hq _ wi_117) (fun _ h9 => h9) rfl (by decide +kernel) rfl rfl (Nat.le_of_ble_eq_true rfl) dB_frameByHand_62 (fun H locs hP hD hS => ?_)
    have hP : va_P (dC, dI) clB (dw h dr db lg fa fr fb ka pg pn y.2.1 di bt dk lf wn rd en fl (nI (nxt y.2.2))) H := hP
    have hD : va_D A (dw h dr db lg fa fr fb ka pg pn y.2.1 di bt dk lf wn rd en fl (nI (nxt y.2.2))) := dw_D hDw
    refine lv_iload_n hx hb dB_frameByHand_65 rfl (lv_at hl 0 rfl) ?_
    exact W.iret (v := (nI y.2.2)) hx hb hr (fun t ht hW => ⟨⟨(nI y.2.2), (), rfl, (by rw [hfin]), by show va_P _ _ _ t.heap; rw [ht]; exact (by rw [hfin]; exact hP)⟩, hS.F ht⟩) hS.2.2 dB_frameByHand_66
  · refine lv_aload_n hx hb dB_frameByHand_8 rfl (lv_at hl 0 rfl) ?_
    refine va_get (D := (dC, dI)) (ci := 3) (v := .ref fa) (C := RB) (T := TB) (N := 4) hx hb hts (inC inB) hown hK hP 0 rfl rfl 2 (by decide) (hq _ wi_116) (fun _ h9 => h9) rfl dB_frameByHand_9 ?_
    refine lv_aload_n hx hb dB_frameByHand_12 rfl (lv_at hl 0 rfl) ?_
    refine va_get (D := (dC, dI)) (ci := 3) (v := .int (nI y.2.2)) (C := RB) (T := TB) (N := 4) hx hb hts (inC inB) hown hK hP 0 rfl rfl 3 (by decide) (hq _ wi_117) (fun _ h9 => h9) rfl dB_frameByHand_13 ?_
    refine tk_aald (n := y.2.2) (y := fr y.2.2) hx hb hK hP 4 1 rfl rfl rfl hy2 (by decide) rfl dB_frameByHand_16 ?_
    refine vp_callSi (va_Run.run (va_runV (As := []) (rest := []) ⟨hx, hb, hml, hown, hts⟩ (c_F_canBeTaken l dC dI ka (fr y.2.2) (fb y.2.2) (pg y.2.2) (pn y.2.2) (y.2.1 y.2.2) (di y.2.2)) (cwV 0 hts (tw_V wi_346 wi_347 wi_348 wi_27 wi_349) rfl rfl rfl (by decide +kernel) ⟨Nat.le_of_ble_eq_true rfl, Nat.le_of_ble_eq_true rfl⟩) ⟨fun a U g mk q => ⟨q.1, tk_E.call q.2.1, q.2.2⟩, va_recv hK hP (ci := 1) (q0 := (5 + y.2.2)) rfl (dw_fr hy2), fun U hU hW => ⟨rfl, tk_E.warm hW hE, by rw [hU]; exact (tk_one hP (k := 5 + y.2.2) (dw_fr hy2))⟩⟩ rfl rfl hl.1 rfl (lv_room (Nat.le_of_ble_eq_true rfl)) dB_frameByHand_17 ⟨Nat.zero_le _, Nat.zero_le _⟩)) (fun r_3 er_3 => ?_)
    subst er_3
    refine lv_if_ne (tgt := 52) hx hb dB_frameByHand_20 (by decide) (fun c_4 => ?_) (fun c_4 => ?_)
    · have hfin : (hbU pn 48 (us, q)) = y.2 := by rw [heq, show 48 - y.1 = (47 - y.1) + 1 by (have := mt (nI_leI (a := 48) (b := y.1) (by decide) (by omega)).mpr c_1; omega), hbU_succ, if_pos (tk_can c_4)]
      refine lv_aload_n hx hb dB_frameByHand_52 rfl (lv_at hl 0 rfl) ?_
      refine va_get (D := (dC, dI)) (ci := 3) (v := .int (nI y.2.2)) (C := RB) (T := TB) (N := 4) hx hb hts (inC inB) hown hK hP 0 rfl rfl 3 (by decide) (hq _ wi_117) (fun _ h9 => h9) rfl dB_frameByHand_53 ?_
      refine lv_istore_n (lv' := [(1, .int (nI y.2.2)), (0, .ref h)]) hx hb dB_frameByHand_56 rfl hl (by decide) rfl (fun ls hl => ?_)
      refine lv_aload_n hx hb dB_frameByHand_57 rfl (lv_at hl 1 rfl) ?_
      refine lv_iload_n hx hb dB_frameByHand_58 rfl (lv_at hl 0 rfl) ?_
      refine vp_callSi (va_Run.run (va_runS (As := [.int (nI y.2.2)]) (rest := [.ref h]) ⟨hx, hb, hml, hown, hts⟩ (c_B_frameBehind l dC dI ka (nI y.2.2)) (cwS 1 hts (tw_S wi_354 wi_355 wi_24 wi_356) rfl rfl rfl (by decide +kernel) ⟨Nat.le_of_ble_eq_true rfl, Nat.le_of_ble_eq_true rfl⟩) ⟨fun a U g mk q => ⟨q.1, tk_E.call q.2.1, q.2.2⟩, fun U hU hW => ⟨rfl, tk_E.warm hW hE, by rw [hU]; exact (fun k q h => by simp at h)⟩⟩ rfl rfl hl.1 rfl (lv_room (Nat.le_of_ble_eq_true rfl)) dB_frameByHand_59 ⟨Nat.zero_le _, Nat.zero_le _⟩)) (fun r_5 er_5 => ?_)
      replace er_5 := er_5.trans (nxt_nI hy2)
      subst er_5
      refine va_put (D := (dC, dI)) (ci := 3) (v := .int (nI (nxt y.2.2))) (ty := .int) (C := RB) (T := TB) (N := 4) hx hb hts (inC inB) tyB tyB_ok nmB hown hK hP hD hS 0 rfl rfl 3 (by decide) (hq _ wi_117) (fun _ h9 => h9) rfl (by decide +kernel) rfl rfl (Nat.le_of_ble_eq_true rfl) dB_frameByHand_62 (fun H locs hP hD hS => ?_)
      have hP : va_P (dC, dI) clB (dw h dr db lg fa fr fb ka pg pn y.2.1 di bt dk lf wn rd en fl (nI (nxt y.2.2))) H := hP
      have hD : va_D A (dw h dr db lg fa fr fb ka pg pn y.2.1 di bt dk lf wn rd en fl (nI (nxt y.2.2))) := dw_D hDw
      refine lv_iload_n hx hb dB_frameByHand_65 rfl (lv_at hl 0 rfl) ?_
      exact W.iret (v := (nI y.2.2)) hx hb hr (fun t ht hW => ⟨⟨(nI y.2.2), (), rfl, (by rw [hfin]), by show va_P _ _ _ t.heap; rw [ht]; exact (by rw [hfin]; exact hP)⟩, hS.F ht⟩) hS.2.2 dB_frameByHand_66
    · refine lv_aload_n hx hb dB_frameByHand_23 rfl (lv_at hl 0 rfl) ?_
      refine va_get (D := (dC, dI)) (ci := 3) (v := .ref fa) (C := RB) (T := TB) (N := 4) hx hb hts (inC inB) hown hK hP 0 rfl rfl 2 (by decide) (hq _ wi_116) (fun _ h9 => h9) rfl dB_frameByHand_24 ?_
      refine lv_aload_n hx hb dB_frameByHand_27 rfl (lv_at hl 0 rfl) ?_
      refine va_get (D := (dC, dI)) (ci := 3) (v := .int (nI y.2.2)) (C := RB) (T := TB) (N := 4) hx hb hts (inC inB) hown hK hP 0 rfl rfl 3 (by decide) (hq _ wi_117) (fun _ h9 => h9) rfl dB_frameByHand_28 ?_
      refine tk_aald (n := y.2.2) (y := fr y.2.2) hx hb hK hP 4 1 rfl rfl rfl hy2 (by decide) rfl dB_frameByHand_31 ?_
      have hFc := tk_free1 (k := 5 + y.2.2) hD hS hA (dw_fr hy2)
      refine va_callv (va_runV (As := []) (rest := []) ⟨hx, hb, hml, hown, hts⟩ (c_F_passBy l dC dI ka _ (fr y.2.2) (fb y.2.2) (pg y.2.2) (pn y.2.2) (y.2.1 y.2.2) (di y.2.2)) (cwV 0 hts (tw_V wi_350 wi_351 wi_352 wi_27 wi_353) rfl rfl rfl (by decide +kernel) ⟨Nat.le_of_ble_eq_true rfl, Nat.le_of_ble_eq_true rfl⟩) ⟨fun a U g mk q => ⟨q.1, q.2.1, tk_E.call q.2.2.1, q.2.2.2⟩, va_recv hK hP (ci := 1) (q0 := (5 + y.2.2)) rfl (dw_fr hy2), fun U hU hW => ⟨rfl, by rw [hU], tk_E.warm hW hE, by rw [hU]; exact (tk_one hP (k := 5 + y.2.2) (dw_fr hy2)), tk_done⟩⟩ rfl rfl hl.1 rfl (lv_room (Nat.le_of_ble_eq_true rfl)) dB_frameByHand_32 ⟨Nat.zero_le _, Nat.zero_le _⟩) hS (fun q _ h => hFc q h) hFc (fun u_6 t H1 locs ht hvm hw hB hz1 hk1 hS => ?_)
      have hB : va_P (dC, dI) clB [((fr y.2.2), .inr (1, [.ref (fb y.2.2), .int (pg y.2.2), .int (pn y.2.2), .int (if (pn y.2.2) = 0 then (if (y.2.1 y.2.2) ≤ 0 then (y.2.1 y.2.2) else (y.2.1 y.2.2) - 1) else (y.2.1 y.2.2)), .int (di y.2.2)]))] H1 := by rw [← ht]; exact hB
      obtain ⟨hP, hD⟩ := tk_join1 (k := 5 + y.2.2) hP hD (dw_fr hy2) hk1 hB
      generalize H1 = H at hP hS ⊢
      have hP : va_P (dC, dI) clB (dw h dr db lg fa fr fb ka pg pn (upd y.2.1 y.2.2 (if (pn y.2.2) = 0 then (if (y.2.1 y.2.2) ≤ 0 then (y.2.1 y.2.2) else (y.2.1 y.2.2) - 1) else (y.2.1 y.2.2))) di bt dk lf wn rd en fl (nI y.2.2)) H := (by rw [← dw_set_u hy2]; exact hP)
      have hD : va_D A (dw h dr db lg fa fr fb ka pg pn (upd y.2.1 y.2.2 (if (pn y.2.2) = 0 then (if (y.2.1 y.2.2) ≤ 0 then (y.2.1 y.2.2) else (y.2.1 y.2.2) - 1) else (y.2.1 y.2.2))) di bt dk lf wn rd en fl (nI y.2.2)) := dw_D hDw
      refine lv_aload_n hx hb dB_frameByHand_35 rfl (lv_at hl 0 rfl) ?_
      refine lv_aload_n hx hb dB_frameByHand_36 rfl (lv_at hl 0 rfl) ?_
      refine va_get (D := (dC, dI)) (ci := 3) (v := .int (nI y.2.2)) (C := RB) (T := TB) (N := 4) hx hb hts (inC inB) hown hK hP 0 rfl rfl 3 (by decide) (hq _ wi_117) (fun _ h9 => h9) rfl dB_frameByHand_37 ?_
      refine vp_callSi (va_Run.run (va_runS (As := [.int (nI y.2.2)]) (rest := [.ref h]) ⟨hx, hb, hml, hown, hts⟩ (c_B_frameBehind l dC dI ka (nI y.2.2)) (cwS 1 hts (tw_S wi_354 wi_355 wi_24 wi_356) rfl rfl rfl (by decide +kernel) ⟨Nat.le_of_ble_eq_true rfl, Nat.le_of_ble_eq_true rfl⟩) ⟨fun a U g mk q => ⟨q.1, tk_E.call q.2.1, q.2.2⟩, fun U hU hW => ⟨rfl, tk_E.warm hW hE, by rw [hU]; exact (fun k q h => by simp at h)⟩⟩ rfl rfl hl.1 rfl (lv_room (Nat.le_of_ble_eq_true rfl)) dB_frameByHand_40 ⟨Nat.zero_le _, Nat.zero_le _⟩)) (fun r_8 er_8 => ?_)
      replace er_8 := er_8.trans (nxt_nI hy2)
      subst er_8
      refine va_put (D := (dC, dI)) (ci := 3) (v := .int (nI (nxt y.2.2))) (ty := .int) (C := RB) (T := TB) (N := 4) hx hb hts (inC inB) tyB tyB_ok nmB hown hK hP hD hS 0 rfl rfl 3 (by decide) (hq _ wi_117) (fun _ h9 => h9) rfl (by decide +kernel) rfl rfl (Nat.le_of_ble_eq_true rfl) dB_frameByHand_43 (fun H locs hP hD hS => ?_)
      have hP : va_P (dC, dI) clB (dw h dr db lg fa fr fb ka pg pn (upd y.2.1 y.2.2 (if (pn y.2.2) = 0 then (if (y.2.1 y.2.2) ≤ 0 then (y.2.1 y.2.2) else (y.2.1 y.2.2) - 1) else (y.2.1 y.2.2))) di bt dk lf wn rd en fl (nI (nxt y.2.2))) H := hP
      have hD : va_D A (dw h dr db lg fa fr fb ka pg pn (upd y.2.1 y.2.2 (if (pn y.2.2) = 0 then (if (y.2.1 y.2.2) ≤ 0 then (y.2.1 y.2.2) else (y.2.1 y.2.2) - 1) else (y.2.1 y.2.2))) di bt dk lf wn rd en fl (nI (nxt y.2.2))) := dw_D hDw
      refine lv_iinc (v := ((nI y.1) + 1)) (lv' := [(1, .int ((nI y.1) + 1)), (0, .ref h)]) hx hb dB_frameByHand_46 hl (k := 1) rfl rfl (by decide) rfl (fun ls hl => ?_)
      refine lv_goto (tgt := 2) hx hb dB_frameByHand_49 (by decide) ?_
      have hz : y.1 < 48 := by have := mt (nI_leI (a := 48) (b := y.1) (by decide) (by omega)).mpr c_1; omega
      exact ih (n - 1) (y.1 + 1, (upd y.2.1 y.2.2 (if (pn y.2.2) = 0 then (if (y.2.1 y.2.2) ≤ 0 then (y.2.1 y.2.2) else (y.2.1 y.2.2) - 1) else (y.2.1 y.2.2)), nxt y.2.2)) _ _ _ (by omega) ⟨by omega, by omega, nxt_lt, (by rw [heq, show 48 - y.1 = (48 - (y.1 + 1)) + 1 by omega, hbU_succ, if_neg (tk_cannot c_4)]), hP, hD, hS, lv_sub hl [1, 0] (by rw [← nI_1 y.1]; rfl)⟩

def dropF (c : Int32) (f : Nat → Int32) (z : Nat) : Nat → Int32 := fun i => if i < z then c else f i
theorem dropF_0 (c : Int32) (f : Nat → Int32) : dropF c f 0 = f := by funext i; simp [dropF]
theorem dropF_s (c : Int32) (f : Nat → Int32) (z : Nat) : upd (dropF c f z) z c = dropF c f (z + 1) := by
  funext i
  by_cases h : i = z
  · simp [upd, dropF, h]
  · by_cases g : i < z
    · simp [upd, dropF, h, g]; omega
    · have : ¬ i < z + 1 := by omega
      simp [upd, dropF, h, g, this]

set_option maxHeartbeats 4000000 in
set_option maxRecDepth 100000 in
theorem c_B_losePower (l : Launch) (dC : Nat → ClassId) (dI : Nat → Nat → Nat) (ka : Nat → ClassId) (sz : Nat) (h dr db lg fa : Nat) (fr fb : Nat → Nat) (pg pn us di : Nat → Int32) (bt : Nat → Nat → Int32) (dk : Nat → Int32) (lf wn rd en fl hd : Int32) : Met l yB_losePower wB_losePower ({ frames := 1, cells := 0, slots := 0, locals := 20 }) (va_Pc [.ref h] (fun U => U.heap.size = sz ∧ tk_E dC dI ka U ∧ va_P (dC, dI) clB (dw h dr db lg fa fr fb ka pg pn us di bt dk lf wn rd en fl hd) U.heap ∧ va_D (fun _ => True) (dw h dr db lg fa fr fb ka pg pn us di bt dk lf wn rd en fl hd))) (va_Qv (fun _ : Unit => True) (fun _ t => va_P (dC, dI) clB (dw h dr db lg fa fr fb ka (dropF (-1) pg 12) (dropF 0 pn 12) (dropF 0 us 12) (dropF 0 di 12) bt dk (-1) wn rd en fl 0) t.heap) (va_A (dw h dr db lg fa fr fb ka pg pn us di bt dk lf wn rd en fl hd) sz)) 0 0 (va_A (dw h dr db lg fa fr fb ka pg pn us di bt dk lf wn rd en fl hd) sz) := by
  refine Met.ofW (cc := cB_losePower) (maxL := 2) (ret := none) (by decide) rfl ?_
  intro p e s m args below meth c s₁ B hml hv
  obtain ⟨rfl, hsz, hE, hP, hD0⟩ := hv
  have hx := B.exec
  have hb := B.bytes
  have hr := B.returns
  have hts := atoms_spec (ws := wB_losePower) B.pre
  have hq : ∀ w ∈ lwg, w.before _ s = true := fun w h => hts w (List.mem_cons_of_mem _ h)
  have hown : s.vm.findClass RB = some m.cls := findClass_of_methodNamed B.named
  have hlocks := B.notSynchronized
  have hK := hE.1
  have hN := hE.2
  subst hsz
  have hD := hD0.self (sz := s.heap.size)
  generalize hAe : va_A (dw h dr db lg fa fr fb ka pg pn us di bt dk lf wn rd en fl hd) s.heap.size = A at hD ⊢
  have hA : ∀ q : Nat, s.heap.size ≤ q → A q := fun q h => by rw [← hAe]; exact Or.inr h
  have hS : va_S A s.heap s.heap [] := va_S.rf
  have hDw := hD
  have hP : va_P (dC, dI) clB (dw h dr db lg fa fr fb ka pg pn us di bt dk lf wn rd en fl hd) s.heap := hP
  have hl := lv_entry ([.ref h]) (n := 2) (Nat.le_of_ble_eq_true rfl)
  rw [lg_entry_eq]
  generalize (lg_sl ([.ref h]) ++ List.replicate (2 - (lg_sl ([.ref h])).length) Slot.unset).toArray = ls at hl ⊢
  have hl : lv_has ls 2 [(0, .ref h)] := hl
  refine lv_iconst (v := 0) hx hb dB_losePower_0 (by decide) ?_
  refine lv_istore_n (lv' := [(1, .int 0), (0, .ref h)]) hx hb dB_losePower_1 rfl hl (by decide) rfl (fun ls hl => ?_)
  refine tk_loop 2 (fun (n : Nat) (z : Nat) H locs ls => (z ≤ 12) ∧ (n = 12 - z) ∧ va_P (dC, dI) clB (dw h dr db lg fa fr fb ka (dropF (-1) pg z) (dropF 0 pn z) (dropF 0 us z) (dropF 0 di z) bt dk lf wn rd en fl hd) H ∧ va_D A (dw h dr db lg fa fr fb ka (dropF (-1) pg z) (dropF 0 pn z) (dropF 0 us z) (dropF 0 di z) bt dk lf wn rd en fl hd) ∧ va_S A s.heap H locs ∧ lv_has ls 2 [(0, .ref h), (1, .int (nI z))]) ?_ 12 0 ⟨(by decide), rfl, (by rw [dropF_0, dropF_0, dropF_0, dropF_0]; exact hP), (dw_D hDw), hS, lv_sub hl [1, 0] rfl⟩
  skip
  intro n z H locs ls hI ih
  obtain ⟨hi, hn, hP, hD, hS, hl⟩ := hI
  refine lv_iload_n hx hb dB_losePower_2 rfl (lv_at hl 1 rfl) ?_
  refine lv_bipush (v := 12) hx hb dB_losePower_3 (by decide) ?_
  refine lv_icmp_ge (tgt := 23) hx hb dB_losePower_5 (by decide) (fun c_1 => ?_) (fun c_1 => ?_)
  · have h12 : z = 12 := by have := (nI_leI (a := 12) (b := z) (by decide) (by omega)).mp c_1; omega
    refine lv_aload_n hx hb dB_losePower_23 rfl (lv_at hl 0 rfl) ?_
    refine lv_iconst (v := 0) hx hb dB_losePower_24 (by decide) ?_
    refine va_put (D := (dC, dI)) (ci := 3) (v := .int 0) (ty := .int) (C := RB) (T := TB) (N := 4) hx hb hts (inC inB) tyB tyB_ok nmB hown hK hP hD hS 0 rfl rfl 3 (by decide) (hq _ wi_117) (fun _ h9 => h9) rfl (by decide +kernel) rfl rfl (Nat.le_of_ble_eq_true rfl) dB_losePower_25 (fun H locs hP hD hS => ?_)
    have hP : va_P (dC, dI) clB (dw h dr db lg fa fr fb ka (dropF (-1) pg z) (dropF 0 pn z) (dropF 0 us z) (dropF 0 di z) bt dk lf wn rd en fl 0) H := hP
    have hD : va_D A (dw h dr db lg fa fr fb ka (dropF (-1) pg z) (dropF 0 pn z) (dropF 0 us z) (dropF 0 di z) bt dk lf wn rd en fl 0) := dw_D hDw
    refine lv_aload_n hx hb dB_losePower_28 rfl (lv_at hl 0 rfl) ?_
    refine va_get (D := (dC, dI)) (ci := 3) (v := .ref dr) (C := RB) (T := TB) (N := 4) hx hb hts (inC inB) hown hK hP 0 rfl rfl 0 (by decide) (hq _ wi_114) (fun _ h9 => h9) rfl dB_losePower_29 ?_
    refine lv_iconst (v := (-1)) hx hb dB_losePower_32 (by decide) ?_
    refine va_putN (D := (dC, dI)) (ci := 0) (v := .int (-1)) (ty := .int) (C := RD) (T := TD) (N := 4) hx hb hts (inC inD) tyD tyD_ok nmD hown hK hP hD hS 1 rfl rfl 1 (by decide) (va_Nw.use rfl (hN _ ns_1)) (fun _ h9 => h9) rfl (by decide +kernel) rfl rfl (Nat.le_of_ble_eq_true rfl) dB_losePower_33 (fun H locs hP hD hS => ?_)
    have hP : va_P (dC, dI) clB (dw h dr db lg fa fr fb ka (dropF (-1) pg z) (dropF 0 pn z) (dropF 0 us z) (dropF 0 di z) bt dk (-1) wn rd en fl 0) H := hP
    have hD : va_D A (dw h dr db lg fa fr fb ka (dropF (-1) pg z) (dropF 0 pn z) (dropF 0 us z) (dropF 0 di z) bt dk (-1) wn rd en fl 0) := dw_D hDw
    exact W.vret hx hb hr (fun t ht hW => ⟨⟨(), rfl, trivial, by show va_P _ _ _ t.heap; rw [ht]; exact (h12 ▸ hP)⟩, hS.F ht⟩) hS.2.2 dB_losePower_36
  · have hz : z < 12 := by have := mt (nI_leI (a := 12) (b := z) (by decide) (by omega)).mpr c_1; omega
    refine lv_aload_n hx hb dB_losePower_8 rfl (lv_at hl 0 rfl) ?_
    refine va_get (D := (dC, dI)) (ci := 3) (v := .ref fa) (C := RB) (T := TB) (N := 4) hx hb hts (inC inB) hown hK hP 0 rfl rfl 2 (by decide) (hq _ wi_116) (fun _ h9 => h9) rfl dB_losePower_9 ?_
    refine lv_iload_n hx hb dB_losePower_12 rfl (lv_at hl 1 rfl) ?_
    refine tk_aald (n := z) (y := fr z) hx hb hK hP 4 1 rfl rfl rfl hz (by decide) rfl dB_losePower_13 ?_
    have hFc := tk_free1 (k := 5 + z) hD hS hA (dw_fr hz)
    refine va_callv (va_runV (As := []) (rest := []) ⟨hx, hb, hml, hown, hts⟩ (c_F_dropPage l dC dI ka _ (fr z) (fb z) ((dropF (-1) pg z) z) ((dropF 0 pn z) z) ((dropF 0 us z) z) ((dropF 0 di z) z)) (cwV 0 hts (tw_V wi_385 wi_386 wi_387 wi_27 wi_388) rfl rfl rfl (by decide +kernel) ⟨Nat.le_of_ble_eq_true rfl, Nat.le_of_ble_eq_true rfl⟩) ⟨fun a U g mk q => ⟨q.1, q.2.1, tk_E.call q.2.2.1, q.2.2.2⟩, va_recv hK hP (ci := 1) (q0 := (5 + z)) rfl (dw_fr hz), fun U hU hW => ⟨rfl, by rw [hU], tk_E.warm hW hE, by rw [hU]; exact (tk_one hP (k := 5 + z) (dw_fr hz)), tk_done⟩⟩ rfl rfl hl.1 rfl (lv_room (Nat.le_of_ble_eq_true rfl)) dB_losePower_14 ⟨Nat.zero_le _, Nat.zero_le _⟩) hS (fun q _ h => hFc q h) hFc (fun u_2 t H1 locs ht hvm hw hB hz1 hk1 hS => ?_)
    have hB : va_P (dC, dI) clB [((fr z), .inr (1, [.ref (fb z), .int (-1), .int 0, .int 0, .int 0]))] H1 := by rw [← ht]; exact hB
    obtain ⟨hP, hD⟩ := tk_join1 (k := 5 + z) hP hD (dw_fr hz) hk1 hB
    generalize H1 = H at hP hS ⊢
    have hP : va_P (dC, dI) clB (dw h dr db lg fa fr fb ka (upd (dropF (-1) pg z) z (-1)) (upd (dropF 0 pn z) z 0) (upd (dropF 0 us z) z 0) (upd (dropF 0 di z) z 0) bt dk lf wn rd en fl hd) H := (by rw [← dw_set_fr hz]; exact hP)
    have hD : va_D A (dw h dr db lg fa fr fb ka (upd (dropF (-1) pg z) z (-1)) (upd (dropF 0 pn z) z 0) (upd (dropF 0 us z) z 0) (upd (dropF 0 di z) z 0) bt dk lf wn rd en fl hd) := dw_D hDw
    refine lv_iinc (v := ((nI z) + 1)) (lv' := [(1, .int ((nI z) + 1)), (0, .ref h)]) hx hb dB_losePower_17 hl (k := 1) rfl rfl (by decide) rfl (fun ls hl => ?_)
    refine lv_goto (tgt := 2) hx hb dB_losePower_20 (by decide) ?_
    exact ih (n - 1) (z + 1) _ _ _ (by omega) ⟨by omega, by omega, (by rw [← dropF_s, ← dropF_s, ← dropF_s, ← dropF_s]; exact hP), (dw_D hDw), hS, lv_sub hl [1, 0] (by rw [← nI_1]; rfl)⟩
