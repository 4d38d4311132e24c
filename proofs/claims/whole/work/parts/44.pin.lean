/-- a frame is found, nothing cut: which one, and the state behind it -/
def ffOK (pg pn us di : Nat → Int32) (bt : Nat → Nat → Int32) (dk : Nat → Int32) (lf wn en fl : Int32) (q f0 : Nat) (us' di' : Nat → Int32) (bt' : Nat → Nat → Int32) (dk' : Nat → Int32) (lf' wn' en' fl' hd' : Int32) : Prop :=
  f0 < 12 ∧ ((fwR pg (-1) (nI f0) ∧ us' = us ∧ hd' = nI q ∧ di' = di ∧ bt' = bt ∧ dk' = dk ∧ lf' = lf ∧ wn' = wn ∧ en' = en ∧ fl' = fl) ∨ ((∀ i, i < 12 → pg i ≠ -1) ∧ hbU pn 48 (us, q) = (us', f0) ∧ hd' = nI (nxt f0) ∧ ((di f0 = 0 ∧ di' = di ∧ bt' = bt ∧ dk' = dk ∧ lf' = lf ∧ wn' = wn ∧ en' = en ∧ fl' = fl) ∨ (¬ di f0 = 0 ∧ ∃ np, pg f0 = nI np ∧ np < 192 ∧ sb_Fit (bt f0) ∧ (∀ z, z < 8 → ¬ lfA lf z = 0) ∧ di' = upd di f0 0 ∧ bt' = va_up bt f0 (psB (bt f0) (tb2 (bt f0) 0 + 1)) ∧ dk' = wrD dk (va_up bt f0 (psB (bt f0) (tb2 (bt f0) 0 + 1)) f0) np 8 ∧ lf' = lfA lf 8 ∧ wn' = wn + nI 8 ∧ en' = (if en < plB (bt f0) then plB (bt f0) else en) ∧ fl' = (if en < plB (bt f0) then fl + 1 else fl)))))

theorem c_B_findFrame (l : Launch) (dC : Nat → ClassId) (dI : Nat → Nat → Nat) (ka : Nat → ClassId) (sz : Nat) (h dr db lg fa : Nat) (fr fb : Nat → Nat) (pg pn us di : Nat → Int32) (bt : Nat → Nat → Int32) (dk : Nat → Int32) (lf wn rd en fl : Int32) (q : Nat) (f0 : Nat) (us' di' : Nat → Int32) (bt' : Nat → Nat → Int32) (dk' : Nat → Int32) (lf' wn' en' fl' hd' : Int32) (hq0 : q < 12) (hff : ffOK pg pn us di bt dk lf wn en fl q f0 us' di' bt' dk' lf' wn' en' fl' hd') : Met l yB_findFrame wB_findFrame ({ frames := 3, cells := 0, slots := 0, locals := 130 }) (va_Pc [.ref h] (fun U => U.heap.size = sz ∧ tk_E dC dI ka U ∧ va_P (dC, dI) clB (dw h dr db lg fa fr fb ka pg pn us di bt dk lf wn rd en fl (nI q)) U.heap ∧ va_D (fun _ => True) (dw h dr db lg fa fr fb ka pg pn us di bt dk lf wn rd en fl (nI q)))) (va_Qi (fun (r : Int32) (_ : Unit) => r = nI f0) (fun _ t => va_P (dC, dI) clB (dw h dr db lg fa fr fb ka pg pn us' di' bt' dk' lf' wn' rd en' fl' hd') t.heap) (va_A (dw h dr db lg fa fr fb ka pg pn us di bt dk lf wn rd en fl (nI q)) sz)) 0 0 (va_A (dw h dr db lg fa fr fb ka pg pn us di bt dk lf wn rd en fl (nI q)) sz) := by
  obtain ⟨hf0, ⟨hfw, e1, e2, e3, e4, e5, e6, e7, e8, e9⟩ | ⟨hne, hHB, e2, ⟨hd0, e3, e4, e5, e6, e7, e8, e9⟩ | ⟨hd0, np, hpg, hnp, hF, hok, e3, e4, e5, e6, e7, e8, e9⟩⟩⟩ := hff
  · rw [e1, e2, e3, e4, e5, e6, e7, e8, e9]
    exact c_B_findFrame_e l dC dI ka sz h dr db lg fa fr fb pg pn us di bt dk lf wn rd en fl q f0 hf0 hfw
  · rw [e2, e3, e4, e5, e6, e7, e8, e9]
    exact c_B_findFrame_c l dC dI ka sz h dr db lg fa fr fb pg pn us di bt dk lf wn rd en fl q f0 us' hne hq0 hHB hf0 hd0
  · rw [e2, e3, e4, e5, e6, e7, e8, e9]
    exact c_B_findFrame_d l dC dI ka sz h dr db lg fa fr fb pg pn us di bt dk lf wn rd en fl q f0 np us' hne hq0 hHB hf0 hd0 hpg hnp hF hok

set_option maxHeartbeats 4000000 in
set_option maxRecDepth 100000 in
theorem c_B_pin_h (l : Launch) (dC : Nat → ClassId) (dI : Nat → Nat → Nat) (ka : Nat → ClassId) (sz : Nat) (h dr db lg fa : Nat) (fr fb : Nat → Nat) (pg pn us di : Nat → Int32) (bt : Nat → Nat → Int32) (dk : Nat → Int32) (lf wn rd en fl hd : Int32) (x : Int32) (n j : Nat) (ex : x = nI n) (hn : n < 192) (hj : j < 12) (hfw : fwR pg x (nI j)) : Met l yB_pin wB_pin ({ frames := 2, cells := 0, slots := 0, locals := 34 }) (va_Pc [.ref h, .int x] (fun U => U.heap.size = sz ∧ tk_E dC dI ka U ∧ va_P (dC, dI) clB (dw h dr db lg fa fr fb ka pg pn us di bt dk lf wn rd en fl hd) U.heap ∧ va_D (fun _ => True) (dw h dr db lg fa fr fb ka pg pn us di bt dk lf wn rd en fl hd))) (va_Qi (fun (r : Int32) (_ : Unit) => r = nI j) (fun _ t => va_P (dC, dI) clB (dw h dr db lg fa fr fb ka pg (upd pn j (pn j + 1)) (upd us j (if 3 < us j + 1 then 3 else us j + 1)) di bt dk lf wn rd en fl hd) t.heap) (va_A (dw h dr db lg fa fr fb ka pg pn us di bt dk lf wn rd en fl hd) sz)) 0 0 (va_A (dw h dr db lg fa fr fb ka pg pn us di bt dk lf wn rd en fl hd) sz) := by
  refine Met.ofW (cc := cB_pin) (maxL := 4) (ret := (some .int)) (by decide) rfl ?_
  intro p e s m args below meth c s₁ B hml hv
  obtain ⟨rfl, hsz, hE, hP, hD0⟩ := hv
  have hx := B.exec
  have hb := B.bytes
  have hr := B.returns
  have hts := atoms_spec (ws := wB_pin) B.pre
  have hq : ∀ w ∈ lwg, w.before _ s = true := fun w h => hts w (List.mem_cons_of_mem _ h)
  have hown : s.vm.findClass RB = some m.cls := findClass_of_methodNamed B.named
  have hlocks := B.notSynchronized
  have hK := hE.1
  have hN := hE.2
  subst hsz
  have hD := hD0.self (sz := s.heap.size)
  generalize hAe : va_A (dw h dr db lg fa fr fb ka pg pn us di bt dk lf wn rd en fl hd) s.heap.size = A at hD ⊢
  have hA : ∀ q : Nat, s.heap.size ≤ q → A q := fun q h => by rw [← hAe]; exact Or.inr h
  have hS : va_S A s.heap s.heap [] := va_S.rf
  have hDw := hD
  have hP : va_P (dC, dI) clB (dw h dr db lg fa fr fb ka pg pn us di bt dk lf wn rd en fl hd) s.heap := hP
  have hl := lv_entry ([.ref h, .int x]) (n := 4) (Nat.le_of_ble_eq_true rfl)
  rw [lg_entry_eq]
  generalize (lg_sl ([.ref h, .int x]) ++ List.replicate (4 - (lg_sl ([.ref h, .int x])).length) Slot.unset).toArray = ls at hl ⊢
  have hl : lv_has ls 4 [(0, .ref h), (1, .int x)] := hl
  refine lv_iload_n hx hb dB_pin_0 rfl (lv_at hl 1 rfl) ?_
  refine vp_callSi (va_Run.run (va_runS (As := [.int x]) (rest := []) ⟨hx, hb, hml, hown, hts⟩ (c_B_isPage l dC dI ka x) (cwS 1 hts (tw_S wi_184 wi_185 wi_24 wi_186) rfl rfl rfl (by decide +kernel) ⟨Nat.le_of_ble_eq_true rfl, Nat.le_of_ble_eq_true rfl⟩) ⟨fun a U g mk q => ⟨q.1, tk_E.call q.2.1, q.2.2⟩, fun U hU hW => ⟨rfl, tk_E.warm hW hE, by rw [hU]; exact (fun k q h => by simp at h)⟩⟩ rfl rfl hl.1 rfl (lv_room (Nat.le_of_ble_eq_true rfl)) dB_pin_1 ⟨Nat.zero_le _, Nat.zero_le _⟩)) (fun r_1 er_1 => ?_)
  replace er_1 := er_1.trans (tk_is1 (N := 192) ex hn (by decide))
  subst er_1
  refine lv_if_ne (tgt := 17) hx hb dB_pin_4 (by decide) (fun c_2 => ?_) (fun c_2 => ?_)
  · refine lv_aload_n hx hb dB_pin_17 rfl (lv_at hl 0 rfl) ?_
    refine lv_iload_n hx hb dB_pin_18 rfl (lv_at hl 1 rfl) ?_
    refine vp_callSi (va_Run.run (va_runV (As := [.int x]) (rest := []) ⟨hx, hb, hml, hown, hts⟩ (c_B_frameWith l dC dI ka h dr db lg fa fr fb pg pn us di bt dk lf wn rd en fl hd x (nI j) hfw) (cwV 1 hts (tw_V wi_291 wi_293 wi_2 wi_24 wi_294) rfl rfl rfl (by decide +kernel) ⟨Nat.le_of_ble_eq_true rfl, Nat.le_of_ble_eq_true rfl⟩) ⟨fun a U g mk q => ⟨q.1, tk_E.call q.2.1, q.2.2⟩, va_recv hK hP (ci := 3) (q0 := 0) rfl rfl, fun U hU hW => ⟨rfl, tk_E.warm hW hE, by rw [hU]; exact hP⟩⟩ rfl rfl hl.1 rfl (lv_room (Nat.le_of_ble_eq_true rfl)) dB_pin_19 ⟨Nat.zero_le _, Nat.zero_le _⟩)) (fun r_3 er_3 => ?_)
    subst er_3
    refine lv_istore_n (lv' := [(2, .int (nI j)), (0, .ref h), (1, .int x)]) hx hb dB_pin_22 rfl hl (by decide) rfl (fun ls hl => ?_)
    refine lv_iload_n hx hb dB_pin_23 rfl (lv_at hl 0 rfl) ?_
    refine lv_iconst (v := (-1)) hx hb dB_pin_24 (by decide) ?_
    refine lv_icmp_eq (tgt := 39) hx hb dB_pin_25 (by decide) (fun c_4 => ?_) (fun c_4 => ?_)
    · exact absurd (c_4 ▸ nI_pos (n := j) (by omega)) (by decide)
    · refine lv_aload_n hx hb dB_pin_28 rfl (lv_at hl 1 rfl) ?_
      refine va_get (D := (dC, dI)) (ci := 3) (v := .ref fa) (C := RB) (T := TB) (N := 4) hx hb hts (inC inB) hown hK hP 0 rfl rfl 2 (by decide) (hq _ wi_116) (fun _ h9 => h9) rfl dB_pin_29 ?_
      refine lv_iload_n hx hb dB_pin_32 rfl (lv_at hl 0 rfl) ?_
      refine tk_aald (n := j) (y := fr j) hx hb hK hP 4 1 rfl rfl rfl hj (by decide) rfl dB_pin_33 ?_
      have hFc := tk_free1 (k := 5 + j) hD hS hA (dw_fr hj)
      refine va_callv (va_runV (As := []) (rest := []) ⟨hx, hb, hml, hown, hts⟩ (c_F_addPin l dC dI ka _ (fr j) (fb j) (pg j) (pn j) (us j) (di j)) (cwV 0 hts (tw_V wi_295 wi_296 wi_297 wi_27 wi_298) rfl rfl rfl (by decide +kernel) ⟨Nat.le_of_ble_eq_true rfl, Nat.le_of_ble_eq_true rfl⟩) ⟨fun a U g mk q => ⟨q.1, q.2.1, tk_E.call q.2.2.1, q.2.2.2⟩, va_recv hK hP (ci := 1) (q0 := (5 + j)) rfl (dw_fr hj), fun U hU hW => ⟨rfl, by rw [hU], tk_E.warm hW hE, by rw [hU]; exact (tk_one hP (k := 5 + j) (dw_fr hj)), tk_done⟩⟩ rfl rfl hl.1 rfl (lv_room (Nat.le_of_ble_eq_true rfl)) dB_pin_34 ⟨Nat.zero_le _, Nat.zero_le _⟩) hS (fun q _ h => hFc q h) hFc (fun u_5 t H1 locs ht hvm hw hB hz1 hk1 hS => ?_)
      have hB : va_P (dC, dI) clB [((fr j), .inr (1, [.ref (fb j), .int (pg j), .int ((pn j) + 1), .int (if 3 < (us j) + 1 then 3 else (us j) + 1), .int (di j)]))] H1 := by rw [← ht]; exact hB
      obtain ⟨hP, hD⟩ := tk_join1 (k := 5 + j) hP hD (dw_fr hj) hk1 hB
      generalize H1 = H at hP hS ⊢
      have hP : va_P (dC, dI) clB (dw h dr db lg fa fr fb ka pg (upd pn j ((pn j) + 1)) (upd us j (if 3 < (us j) + 1 then 3 else (us j) + 1)) di bt dk lf wn rd en fl hd) H := (by rw [← dw_set_pu hj]; exact hP)
      have hD : va_D A (dw h dr db lg fa fr fb ka pg (upd pn j ((pn j) + 1)) (upd us j (if 3 < (us j) + 1 then 3 else (us j) + 1)) di bt dk lf wn rd en fl hd) := dw_D hDw
      refine lv_iload_n hx hb dB_pin_37 rfl (lv_at hl 0 rfl) ?_
      exact W.iret (v := (nI j)) hx hb hr (fun t ht hW => ⟨⟨(nI j), (), rfl, rfl, by show va_P _ _ _ t.heap; rw [ht]; exact hP⟩, hS.F ht⟩) hS.2.2 dB_pin_38
  · exact absurd c_2 (by decide)

set_option maxHeartbeats 4000000 in
set_option maxRecDepth 100000 in
theorem c_B_pin_in (l : Launch) (dC : Nat → ClassId) (dI : Nat → Nat → Nat) (ka : Nat → ClassId) (sz : Nat) (h dr db lg fa : Nat) (fr fb : Nat → Nat) (pg pn us di : Nat → Int32) (bt : Nat → Nat → Int32) (dk : Nat → Int32) (lf wn rd en fl : Int32) (q : Nat) (x : Int32) (n f0 : Nat) (us' di' : Nat → Int32) (bt' : Nat → Nat → Int32) (dk' : Nat → Int32) (lf' wn' en' fl' hd' : Int32) (ex : x = nI n) (hn : n < 192) (hno : ∀ i, i < 12 → pg i ≠ x) (hap : ahR pn 0) (hnt : tb2 dk (n * 512) = tb2 dk (n * 512 + 510)) (hFd : sb_Fit dk') (hq0 : q < 12) (hff : ffOK pg pn us di bt dk lf wn en fl q f0 us' di' bt' dk' lf' wn' en' fl' hd') : Met l yB_pin wB_pin ({ frames := 4, cells := 0, slots := 0, locals := 151 }) (va_Pc [.ref h, .int x] (fun U => U.heap.size = sz ∧ tk_E dC dI ka U ∧ va_P (dC, dI) clB (dw h dr db lg fa fr fb ka pg pn us di bt dk lf wn rd en fl (nI q)) U.heap ∧ va_D (fun _ => True) (dw h dr db lg fa fr fb ka pg pn us di bt dk lf wn rd en fl (nI q)))) (va_Qi (fun (r : Int32) (_ : Unit) => r = nI f0) (fun _ t => va_P (dC, dI) clB (dw h dr db lg fa fr fb ka (upd pg f0 x) (upd pn f0 1) (upd us' f0 1) (upd di' f0 0) (va_up bt' f0 (va_cpy dk' (bt' f0) (n * 512) 0 512)) dk' lf' wn' (rd + 1) en' fl' hd') t.heap) (va_A (dw h dr db lg fa fr fb ka pg pn us di bt dk lf wn rd en fl (nI q)) sz)) 0 0 (va_A (dw h dr db lg fa fr fb ka pg pn us di bt dk lf wn rd en fl (nI q)) sz) := by
  refine Met.ofW (cc := cB_pin) (maxL := 4) (ret := (some .int)) (by decide) rfl ?_
  intro p e s m args below meth c s₁ B hml hv
  obtain ⟨rfl, hsz, hE, hP, hD0⟩ := hv
  have hx := B.exec
  have hb := B.bytes
  have hr := B.returns
  have hts := atoms_spec (ws := wB_pin) B.pre
  have hq : ∀ w ∈ lwg, w.before _ s = true := fun w h => hts w (List.mem_cons_of_mem _ h)
  have hown : s.vm.findClass RB = some m.cls := findClass_of_methodNamed B.named
  have hlocks := B.notSynchronized
  have hK := hE.1
  have hN := hE.2
  subst hsz
  have hD := hD0.self (sz := s.heap.size)
  generalize hAe : va_A (dw h dr db lg fa fr fb ka pg pn us di bt dk lf wn rd en fl (nI q)) s.heap.size = A at hD ⊢
  have hA : ∀ q : Nat, s.heap.size ≤ q → A q := fun q h => by rw [← hAe]; exact Or.inr h
  have hS : va_S A s.heap s.heap [] := va_S.rf
  have hDw := hD
  have hP : va_P (dC, dI) clB (dw h dr db lg fa fr fb ka pg pn us di bt dk lf wn rd en fl (nI q)) s.heap := hP
  have hl := lv_entry ([.ref h, .int x]) (n := 4) (Nat.le_of_ble_eq_true rfl)
  rw [lg_entry_eq]
  generalize (lg_sl ([.ref h, .int x]) ++ List.replicate (4 - (lg_sl ([.ref h, .int x])).length) Slot.unset).toArray = ls at hl ⊢
  have hl : lv_has ls 4 [(0, .ref h), (1, .int x)] := hl
  refine lv_iload_n hx hb dB_pin_0 rfl (lv_at hl 1 rfl) ?_
  refine vp_callSi (va_Run.run (va_runS (As := [.int x]) (rest := []) ⟨hx, hb, hml, hown, hts⟩ (c_B_isPage l dC dI ka x) (cwS 1 hts (tw_S wi_184 wi_185 wi_24 wi_186) rfl rfl rfl (by decide +kernel) ⟨Nat.le_of_ble_eq_true rfl, Nat.le_of_ble_eq_true rfl⟩) ⟨fun a U g mk q => ⟨q.1, tk_E.call q.2.1, q.2.2⟩, fun U hU hW => ⟨rfl, tk_E.warm hW hE, by rw [hU]; exact (fun k q h => by simp at h)⟩⟩ rfl rfl hl.1 rfl (lv_room (Nat.le_of_ble_eq_true rfl)) dB_pin_1 ⟨Nat.zero_le _, Nat.zero_le _⟩)) (fun r_1 er_1 => ?_)
  replace er_1 := er_1.trans (tk_is1 (N := 192) ex hn (by decide))
  subst er_1
  refine lv_if_ne (tgt := 17) hx hb dB_pin_4 (by decide) (fun c_2 => ?_) (fun c_2 => ?_)
  · refine lv_aload_n hx hb dB_pin_17 rfl (lv_at hl 0 rfl) ?_
    refine lv_iload_n hx hb dB_pin_18 rfl (lv_at hl 1 rfl) ?_
    refine vp_callSi (va_Run.run (va_runV (As := [.int x]) (rest := []) ⟨hx, hb, hml, hown, hts⟩ (c_B_frameWith l dC dI ka h dr db lg fa fr fb pg pn us di bt dk lf wn rd en fl (nI q) x (-1) (Or.inl ⟨rfl, hno⟩)) (cwV 1 hts (tw_V wi_291 wi_293 wi_2 wi_24 wi_294) rfl rfl rfl (by decide +kernel) ⟨Nat.le_of_ble_eq_true rfl, Nat.le_of_ble_eq_true rfl⟩) ⟨fun a U g mk q => ⟨q.1, tk_E.call q.2.1, q.2.2⟩, va_recv hK hP (ci := 3) (q0 := 0) rfl rfl, fun U hU hW => ⟨rfl, tk_E.warm hW hE, by rw [hU]; exact hP⟩⟩ rfl rfl hl.1 rfl (lv_room (Nat.le_of_ble_eq_true rfl)) dB_pin_19 ⟨Nat.zero_le _, Nat.zero_le _⟩)) (fun r_3 er_3 => ?_)
    subst er_3
    refine lv_istore_n (lv' := [(2, .int (-1)), (0, .ref h), (1, .int x)]) hx hb dB_pin_22 rfl hl (by decide) rfl (fun ls hl => ?_)
    refine lv_iload_n hx hb dB_pin_23 rfl (lv_at hl 0 rfl) ?_
    refine lv_iconst (v := (-1)) hx hb dB_pin_24 (by decide) ?_
    refine lv_icmp_eq (tgt := 39) hx hb dB_pin_25 (by decide) (fun c_4 => ?_) (fun c_4 => ?_)
    · refine lv_aload_n hx hb dB_pin_39 rfl (lv_at hl 1 rfl) ?_
      refine vp_callSi (va_Run.run (va_runV (As := []) (rest := []) ⟨hx, hb, hml, hown, hts⟩ (c_B_allHavePins l dC dI ka h dr db lg fa fr fb pg pn us di bt dk lf wn rd en fl (nI q) 0 hap) (cwV 0 hts (tw_V wi_302 wi_304 wi_3 wi_24 wi_305) rfl rfl rfl (by decide +kernel) ⟨Nat.le_of_ble_eq_true rfl, Nat.le_of_ble_eq_true rfl⟩) ⟨fun a U g mk q => ⟨q.1, tk_E.call q.2.1, q.2.2⟩, va_recv hK hP (ci := 3) (q0 := 0) rfl rfl, fun U hU hW => ⟨rfl, tk_E.warm hW hE, by rw [hU]; exact hP⟩⟩ rfl rfl hl.1 rfl (lv_room (Nat.le_of_ble_eq_true rfl)) dB_pin_40 ⟨Nat.zero_le _, Nat.zero_le _⟩)) (fun r_5 er_5 => ?_)
      subst er_5
      refine lv_if_eq (tgt := 56) hx hb dB_pin_43 (by decide) (fun c_6 => ?_) (fun c_6 => ?_)
      · refine lv_aload_n hx hb dB_pin_56 rfl (lv_at hl 1 rfl) ?_
        refine va_get (D := (dC, dI)) (ci := 3) (v := .ref dr) (C := RB) (T := TB) (N := 4) hx hb hts (inC inB) hown hK hP 0 rfl rfl 0 (by decide) (hq _ wi_114) (fun _ h9 => h9) rfl dB_pin_57 ?_
        refine lv_iload_n hx hb dB_pin_60 rfl (lv_at hl 2 rfl) ?_
        refine vp_callSi (va_Run.run (va_runV (As := [.int x]) (rest := []) ⟨hx, hb, hml, hown, hts⟩ (c_D_isTorn l dC dI ka dr db lf wn rd dk x n ex hn) (cwV 1 hts (tw_V wi_195 wi_196 wi_197 wi_25 wi_198) rfl rfl rfl (by decide +kernel) ⟨Nat.le_of_ble_eq_true rfl, Nat.le_of_ble_eq_true rfl⟩) ⟨fun a U g mk q => ⟨q.1, tk_E.call q.2.1, q.2.2⟩, va_recv hK hP (ci := 0) (q0 := 1) rfl rfl, fun U hU hW => ⟨rfl, tk_E.warm hW hE, by rw [hU]; exact (tk_two hP (k := 1) (k' := 2) rfl rfl)⟩⟩ rfl rfl hl.1 rfl (lv_room (Nat.le_of_ble_eq_true rfl)) dB_pin_61 ⟨Nat.zero_le _, Nat.zero_le _⟩)) (fun r_7 er_7 => ?_)
        replace er_7 := er_7.trans (if_pos hnt)
        subst er_7
        refine lv_if_eq (tgt := 77) hx hb dB_pin_64 (by decide) (fun c_8 => ?_) (fun c_8 => ?_)
        · have hf0 := hff.1
          refine lv_aload_n hx hb dB_pin_77 rfl (lv_at hl 1 rfl) ?_
          have hFc := tk_freeW hD hS hA
          refine va_calli (va_runV (As := []) (rest := []) ⟨hx, hb, hml, hown, hts⟩ (c_B_findFrame l dC dI ka _ h dr db lg fa fr fb pg pn us di bt dk lf wn rd en fl q f0 us' di' bt' dk' lf' wn' en' fl' hd' hq0 hff) (cwV 0 hts (tw_V wi_338 wi_340 wi_4 wi_24 wi_341) rfl rfl rfl (by decide +kernel) ⟨Nat.le_of_ble_eq_true rfl, Nat.le_of_ble_eq_true rfl⟩) ⟨fun a U g mk q => ⟨q.1, q.2.1, tk_E.call q.2.2.1, q.2.2.2⟩, va_recv hK hP (ci := 3) (q0 := 0) rfl rfl, fun U hU hW => ⟨rfl, by rw [hU], tk_E.warm hW hE, by rw [hU]; exact hP, hD.weaken (fun _ _ _ _ => trivial)⟩⟩ rfl rfl hl.1 rfl (lv_room (Nat.le_of_ble_eq_true rfl)) dB_pin_78 ⟨Nat.zero_le _, Nat.zero_le _⟩) hS (fun q _ h => hFc q h) hFc (fun r_10 u_9 t H1 locs ht hvm hw hB hz1 hk1 hS => ?_)
          have hB : va_P (dC, dI) clB (dw h dr db lg fa fr fb ka pg pn us' di' bt' dk' lf' wn' rd en' fl' hd') H1 := by rw [← ht]; exact hB
          obtain ⟨hP, hD⟩ := (⟨hB, dw_D hDw⟩ : va_P (dC, dI) clB (dw h dr db lg fa fr fb ka pg pn us' di' bt' dk' lf' wn' rd en' fl' hd') H1 ∧ va_D A (dw h dr db lg fa fr fb ka pg pn us' di' bt' dk' lf' wn' rd en' fl' hd'))
          generalize H1 = H at hP hS ⊢
          have hP : va_P (dC, dI) clB (dw h dr db lg fa fr fb ka pg pn us' di' bt' dk' lf' wn' rd en' fl' hd') H := hP
          have hD : va_D A (dw h dr db lg fa fr fb ka pg pn us' di' bt' dk' lf' wn' rd en' fl' hd') := dw_D hDw
          subst hw
          refine lv_istore_n (lv' := [(3, .int (nI f0)), (2, .int (-1)), (0, .ref h), (1, .int x)]) hx hb dB_pin_81 rfl hl (by decide) rfl (fun ls hl => ?_)
          refine lv_aload_n hx hb dB_pin_82 rfl (lv_at hl 2 rfl) ?_
          refine va_get (D := (dC, dI)) (ci := 3) (v := .ref fa) (C := RB) (T := TB) (N := 4) hx hb hts (inC inB) hown hK hP 0 rfl rfl 2 (by decide) (hq _ wi_116) (fun _ h9 => h9) rfl dB_pin_83 ?_
          refine lv_iload_n hx hb dB_pin_86 rfl (lv_at hl 0 rfl) ?_
          refine tk_aald (n := f0) (y := fr f0) hx hb hK hP 4 1 rfl rfl rfl hf0 (by decide) rfl dB_pin_87 ?_
          refine lv_iload_n hx hb dB_pin_88 rfl (lv_at hl 3 rfl) ?_
          have hFc := tk_free1 (k := 5 + f0) hD hS hA (dw_fr hf0)
          refine va_callv (va_runV (As := [.int x]) (rest := []) ⟨hx, hb, hml, hown, hts⟩ (c_F_takePage l dC dI ka _ (fr f0) (fb f0) (pg f0) (pn f0) (us' f0) (di' f0) x) (cwV 1 hts (tw_V wi_405 wi_406 wi_407 wi_27 wi_408) rfl rfl rfl (by decide +kernel) ⟨Nat.le_of_ble_eq_true rfl, Nat.le_of_ble_eq_true rfl⟩) ⟨fun a U g mk q => ⟨q.1, q.2.1, tk_E.call q.2.2.1, q.2.2.2⟩, va_recv hK hP (ci := 1) (q0 := (5 + f0)) rfl (dw_fr hf0), fun U hU hW => ⟨rfl, by rw [hU], tk_E.warm hW hE, by rw [hU]; exact (tk_one hP (k := 5 + f0) (dw_fr hf0)), tk_done⟩⟩ rfl rfl hl.1 rfl (lv_room (Nat.le_of_ble_eq_true rfl)) dB_pin_89 ⟨Nat.zero_le _, Nat.zero_le _⟩) hS (fun q _ h => hFc q h) hFc (fun u_11 t H1 locs ht hvm hw hB hz1 hk1 hS => ?_)
          have hB : va_P (dC, dI) clB [((fr f0), .inr (1, [.ref (fb f0), .int x, .int 1, .int 1, .int 0]))] H1 := by rw [← ht]; exact hB
          obtain ⟨hP, hD⟩ := tk_join1 (k := 5 + f0) hP hD (dw_fr hf0) hk1 hB
          generalize H1 = H at hP hS ⊢
          have hP : va_P (dC, dI) clB (dw h dr db lg fa fr fb ka (upd pg f0 x) (upd pn f0 1) (upd us' f0 1) (upd di' f0 0) bt' dk' lf' wn' rd en' fl' hd') H := (by rw [← dw_set_fr hf0]; exact hP)
          have hD : va_D A (dw h dr db lg fa fr fb ka (upd pg f0 x) (upd pn f0 1) (upd us' f0 1) (upd di' f0 0) bt' dk' lf' wn' rd en' fl' hd') := dw_D hDw
          refine lv_aload_n hx hb dB_pin_92 rfl (lv_at hl 2 rfl) ?_
          refine va_get (D := (dC, dI)) (ci := 3) (v := .ref dr) (C := RB) (T := TB) (N := 4) hx hb hts (inC inB) hown hK hP 0 rfl rfl 0 (by decide) (hq _ wi_114) (fun _ h9 => h9) rfl dB_pin_93 ?_
          refine lv_iload_n hx hb dB_pin_96 rfl (lv_at hl 3 rfl) ?_
          refine lv_aload_n hx hb dB_pin_97 rfl (lv_at hl 2 rfl) ?_
          refine va_get (D := (dC, dI)) (ci := 3) (v := .ref fa) (C := RB) (T := TB) (N := 4) hx hb hts (inC inB) hown hK hP 0 rfl rfl 2 (by decide) (hq _ wi_116) (fun _ h9 => h9) rfl dB_pin_98 ?_
          refine lv_iload_n hx hb dB_pin_101 rfl (lv_at hl 0 rfl) ?_
          refine tk_aald (n := f0) (y := fr f0) hx hb hK hP 4 1 rfl rfl rfl hf0 (by decide) rfl dB_pin_102 ?_
          refine va_getN (D := (dC, dI)) (ci := 1) (v := .ref (fb f0)) (C := RF) (T := TF) (N := 5) hx hb hts (inC inF) hown hK hP (5 + f0) (dw_fr hf0) rfl 0 (by decide) (va_Nw.use rfl (hN _ ns_8)) (fun _ h9 => h9) rfl dB_pin_103 ?_
          have hFc := tk_free3 (k := 1) (k' := 2) (k2 := 17 + f0) hD hS hA rfl rfl (dw_fb hf0)
          refine va_callv (va_runV (As := [.int x, .ref (fb f0)]) (rest := []) ⟨hx, hb, hml, hown, hts⟩ (c_D_readPage l dC dI ka _ dr db (fb f0) lf' wn' rd dk' (bt' f0) x n ex hn hFd) (cwV 2 hts (tw_V wi_409 wi_410 wi_411 wi_25 wi_412) rfl rfl rfl (by decide +kernel) ⟨Nat.le_of_ble_eq_true rfl, Nat.le_of_ble_eq_true rfl⟩) ⟨fun a U g mk q => ⟨q.1, q.2.1, tk_E.call q.2.2.1, q.2.2.2⟩, va_recv hK hP (ci := 0) (q0 := 1) rfl rfl, fun U hU hW => ⟨rfl, by rw [hU], tk_E.warm hW hE, by rw [hU]; exact (tk_three hP (k := 1) (k' := 2) (k2 := 17 + f0) rfl rfl (dw_fb hf0)), (tk_dthree hD (k := 1) (k' := 2) (k2 := 17 + f0) rfl rfl (dw_fb hf0) (by omega) (by omega) (by omega))⟩⟩ rfl rfl hl.1 rfl (lv_room (Nat.le_of_ble_eq_true rfl)) dB_pin_106 ⟨Nat.zero_le _, Nat.zero_le _⟩) hS (fun q _ h => hFc q h) hFc (fun u_13 t H1 locs ht hvm hw hB hz1 hk1 hS => ?_)
          have hB : va_P (dC, dI) clB [(dr, .inr (0, [.ref db, .int lf', .int wn', .int (rd + 1)])), (db, .inl (ka 0, 98304, .inl dk')), ((fb f0), .inl (ka 0, 512, .inl (va_cpy dk' (bt' f0) (n * 512) 0 512)))] H1 := by rw [← ht]; exact hB
          obtain ⟨hP, hD⟩ := tk_join3 (k := 1) (k' := 2) (k2 := 17 + f0) hP hD rfl rfl (dw_fb hf0) (by omega) (by omega) (by omega) hk1 hB
          generalize H1 = H at hP hS ⊢
          have hP : va_P (dC, dI) clB (dw h dr db lg fa fr fb ka (upd pg f0 x) (upd pn f0 1) (upd us' f0 1) (upd di' f0 0) (va_up bt' f0 (va_cpy dk' (bt' f0) (n * 512) 0 512)) dk' lf' wn' (rd + 1) en' fl' hd') H := (by rw [← dw_set_fb hf0]; exact hP)
          have hD : va_D A (dw h dr db lg fa fr fb ka (upd pg f0 x) (upd pn f0 1) (upd us' f0 1) (upd di' f0 0) (va_up bt' f0 (va_cpy dk' (bt' f0) (n * 512) 0 512)) dk' lf' wn' (rd + 1) en' fl' hd') := dw_D hDw
          refine lv_iload_n hx hb dB_pin_109 rfl (lv_at hl 0 rfl) ?_
          exact W.iret (v := (nI f0)) hx hb hr (fun t ht hW => ⟨⟨(nI f0), (), rfl, rfl, by show va_P _ _ _ t.heap; rw [ht]; exact hP⟩, hS.F ht⟩) hS.2.2 dB_pin_110
        · exact absurd c_8 (by decide)
      · exact absurd c_6 (by decide)
    · exact absurd c_4 (by decide)
  · exact absurd c_2 (by decide)
