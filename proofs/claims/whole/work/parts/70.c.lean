set_option maxHeartbeats 4000000 in
theorem c_L_remake_ok (l : Launch) (dC : Nat → ClassId) (dI : Nat → Nat → Nat) (ka : Nat → ClassId) (sz : Nat) (h o : Nat) (x : Int32) (r : Int32) (g : Nat → Int64) (Wd We : va_W) (fs : List Value) (hW0 : Wd[0]? = some (h, .inr (3, fs))) (hm : Wd.map (fun q => q.1) = We.map (fun q => q.1)) (hO : oI l dC dI ka yB_remake wB_remake (.ref h :: [.int x]) Wd We r) : Met l yL_remake wL_remake ({ frames := 9, cells := 0, slots := 0, locals := 200 }) (va_Pc [.ref h, .int x, .ref o] (fun U => U.heap.size = sz ∧ tk_E dC dI ka U ∧ va_P (dC, dI) clB ((o, .inl (ka 5, 1, .inr (.inl g))) :: Wd) U.heap ∧ va_D (fun _ => True) ((o, .inl (ka 5, 1, .inr (.inl g))) :: Wd))) (va_Qi (fun (r' : Int32) (_ : Unit) => r' = 0) (fun _ t => va_P (dC, dI) clB ((o, .inl (ka 5, 1, .inr (.inl (vp_updL g 0 r.toInt64)))) :: We) t.heap) (va_A ((o, .inl (ka 5, 1, .inr (.inl g))) :: Wd) sz)) 0 0 (va_A ((o, .inl (ka 5, 1, .inr (.inl g))) :: Wd) sz) := by
  obtain ⟨fr, lo, hfr, hlo, hM⟩ := hO
  refine va_MetW (cc := cL_remake) (maxL := 4) (ret := some .int) (hh := hL_remake) (by decide) rfl ?_
  intro p e s m args below meth c s₁ B hml hv
  obtain ⟨rfl, hsz, hE, hP, hD0⟩ := hv
  have hx := B.exec
  have hb := B.bytes
  have hr := B.returns
  have hts := atoms_spec (ws := wL_remake) B.pre
  have hq : ∀ w ∈ lwg, w.before _ s = true := fun w h => hts w (List.mem_cons_of_mem _ h)
  have hown : s.vm.findClass RL = some m.cls := findClass_of_methodNamed B.named
  have hlocks := B.notSynchronized
  have hK := hE.1
  have hN := hE.2
  subst hsz
  have hD := hD0.self (sz := s.heap.size)
  generalize hAe : va_A ((o, .inl (ka 5, 1, .inr (.inl g))) :: Wd) s.heap.size = A at hD ⊢
  have hA : ∀ q : Nat, s.heap.size ≤ q → A q := fun q h => by rw [← hAe]; exact Or.inr h
  have hS : va_S A s.heap s.heap [] := va_S.rf
  have hl := lv_entry ([.ref h, .int x, .ref o]) (n := 4) (Nat.le_of_ble_eq_true rfl)
  rw [lg_entry_eq]
  generalize (lg_sl ([.ref h, .int x, .ref o]) ++ List.replicate (4 - (lg_sl ([.ref h, .int x, .ref o])).length) Slot.unset).toArray = ls at hl ⊢
  have hl : lv_has ls 4 [(0, .ref h), (1, .int x), (2, .ref o)] := hl
  refine lv_aload_n hx hb dL_remake_0 rfl (lv_at hl 2 rfl) ?_
  refine lv_iconst (v := 0) hx hb dL_remake_1 (by decide) ?_
  refine lv_aload_n hx hb dL_remake_2 rfl (lv_at hl 0 rfl) ?_
  refine lv_iload_n hx hb dL_remake_3 rfl (lv_at hl 1 rfl) ?_
  have hP : va_P (dC, dI) clB ([(o, .inl (ka 5, 1, .inr (.inl g)))] ++ Wd) s.heap := hP
  have hD : va_D A ([(o, .inl (ka 5, 1, .inr (.inl g)))] ++ Wd) := hD
  have hFc := tk_freeG (ws := [(o, .inl (ka 5, 1, .inr (.inl g)))]) (wc := Wd) hD hS hA
  refine va_calli (va_runV (As := [.int x]) (rest := [.int 0, .ref o]) ⟨hx, hb, hml, hown, hts⟩ (hM _) (cwV 1 hts (tw_V wi_416 wi_417 wi_418 wi_24 wi_419) rfl rfl rfl (by decide +kernel) ⟨by show fr + 1 ≤ 9; omega, by show 8 + (3 + 11) + lo ≤ 200; omega⟩) ⟨fun a U g mk q => ⟨q.1, q.2.1, tk_E.call q.2.2.1, q.2.2.2⟩, va_recv hK hP (ci := 3) (q0 := 1) rfl hW0, fun U hU hW => ⟨rfl, by rw [hU], tk_E.warm hW hE, by rw [hU]; exact tk_lastP (ws := [(o, .inl (ka 5, 1, .inr (.inl g)))]) hP, (tk_lastD (ws := [(o, .inl (ka 5, 1, .inr (.inl g)))]) hD).weaken (fun _ _ _ _ => trivial)⟩⟩ rfl rfl hl.1 rfl (lv_room (Nat.le_of_ble_eq_true rfl)) dL_remake_4 ⟨Nat.zero_le _, Nat.zero_le _⟩) hS (fun q _ h => hFc q h) hFc (fun r9 u9 t H1 locs ht hvm hw hB hz1 hk1 hS => ?_)
  subst hw
  have hB1 : va_P (dC, dI) clB We H1 := by rw [← ht]; exact hB
  obtain ⟨hP, hD⟩ := tk_joinW (ws := [(o, .inl (ka 5, 1, .inr (.inl g)))]) (wc := Wd) hP hD hk1 hFc hB1 hm
  generalize H1 = H at hP hS ⊢
  refine lv_i2l hx hb dL_remake_7 rfl ?_
  refine va_last hx hb hK hP hD hS 0 5 rfl rfl (vp_in_nI (n := 0) (N := 1) (by decide) (by decide)) dL_remake_8 (fun H locs hP hD hS => ?_)
  have hP : va_P (dC, dI) clB ((o, .inl (ka 5, 1, .inr (.inl (vp_updL g 0 r9.toInt64)))) :: We) H := hP
  refine lv_goto (tgt := 21) hx hb dL_remake_9 (by decide) ?_
  refine lv_iconst (v := 0) hx hb dL_remake_21 (by decide) ?_
  exact W.iret (v := 0) hx hb hr (fun t ht hW => ⟨⟨0, (), rfl, rfl, by show va_P _ _ _ t.heap; rw [ht]; exact hP⟩, hS.F ht⟩) hS.2.2 dL_remake_22

set_option maxHeartbeats 4000000 in
theorem c_L_remake_IAE (l : Launch) (dC : Nat → ClassId) (dI : Nat → Nat → Nat) (ka : Nat → ClassId) (sa : Nat → Nat) (sz : Nat) (h o : Nat) (x : Int32) (g : Nat → Int64) (Wd We : va_W) (fs : List Value) (hW0 : Wd[0]? = some (h, .inr (3, fs))) (hm : Wd.map (fun q => q.1) = We.map (fun q => q.1)) (hO : oX l dC dI ka yB_remake wB_remake (.ref h :: [.int x]) Wd We xIAE) : Met l yL_remake wL_remake ({ frames := 9, cells := 1, slots := 6, locals := 200 }) (va_Pc [.ref h, .int x, .ref o] (fun U => U.heap.size = sz ∧ tk_E dC dI ka U ∧ tk_X sa U ∧ tk_Z (va_A ((o, .inl (ka 5, 1, .inr (.inl g))) :: Wd) sz) U U.heap ∧ tk_N U ∧ va_P (dC, dI) clB ((o, .inl (ka 5, 1, .inr (.inl g))) :: Wd) U.heap ∧ va_D (fun _ => True) ((o, .inl (ka 5, 1, .inr (.inl g))) :: Wd))) (va_Qi (fun (r' : Int32) (_ : Unit) => r' = 1) (fun _ t => va_P (dC, dI) clB ((o, .inl (ka 5, 1, .inr (.inl g))) :: We) t.heap) (va_A ((o, .inl (ka 5, 1, .inr (.inl g))) :: Wd) sz)) 1 6 (va_A ((o, .inl (ka 5, 1, .inr (.inl g))) :: Wd) sz) := by
  obtain ⟨fr, lo, hfr, hlo, hM⟩ := hO
  refine va_MetW (cc := cL_remake) (maxL := 4) (ret := some .int) (hh := hL_remake) (by decide) rfl ?_
  intro p e s m args below meth c s₁ B hml hv
  obtain ⟨rfl, hsz, hE, hXx, hZz, hNn, hP, hD0⟩ := hv
  have hx := B.exec
  have hb := B.bytes
  have hr := B.returns
  have hts := atoms_spec (ws := wL_remake) B.pre
  have hq : ∀ w ∈ lwg, w.before _ s = true := fun w h => hts w (List.mem_cons_of_mem _ h)
  have hown : s.vm.findClass RL = some m.cls := findClass_of_methodNamed B.named
  have hlocks := B.notSynchronized
  have hK := hE.1
  have hN := hE.2
  subst hsz
  have hD := hD0.self (sz := s.heap.size)
  generalize hAe : va_A ((o, .inl (ka 5, 1, .inr (.inl g))) :: Wd) s.heap.size = A at hD hZz ⊢
  have hA : ∀ q : Nat, s.heap.size ≤ q → A q := fun q h => by rw [← hAe]; exact Or.inr h
  have hS : va_S A s.heap s.heap [] := va_S.rf
  have hl := lv_entry ([.ref h, .int x, .ref o]) (n := 4) (Nat.le_of_ble_eq_true rfl)
  rw [lg_entry_eq]
  generalize (lg_sl ([.ref h, .int x, .ref o]) ++ List.replicate (4 - (lg_sl ([.ref h, .int x, .ref o])).length) Slot.unset).toArray = ls at hl ⊢
  have hl : lv_has ls 4 [(0, .ref h), (1, .int x), (2, .ref o)] := hl
  refine lv_aload_n hx hb dL_remake_0 rfl (lv_at hl 2 rfl) ?_
  refine lv_iconst (v := 0) hx hb dL_remake_1 (by decide) ?_
  refine lv_aload_n hx hb dL_remake_2 rfl (lv_at hl 0 rfl) ?_
  refine lv_iload_n hx hb dL_remake_3 rfl (lv_at hl 1 rfl) ?_
  have hP : va_P (dC, dI) clB ([(o, .inl (ka 5, 1, .inr (.inl g)))] ++ Wd) s.heap := hP
  have hD : va_D A ([(o, .inl (ka 5, 1, .inr (.inl g)))] ++ Wd) := hD
  have hFc := tk_freeG (ws := [(o, .inl (ka 5, 1, .inr (.inl g)))]) (wc := Wd) hD hS hA
  have hTb := vx_table (x := yL_remake) B (hq _ wi_415)
  refine vx_calli (vx_runV (As := [.int x]) (rest := [.int 0, .ref o]) ⟨hx, hb, hml, hown, hts⟩ (hM sa _) (cwV 1 hts (tw_V wi_416 wi_417 wi_418 wi_24 wi_419) rfl rfl rfl (by decide +kernel) ⟨by show fr + 1 ≤ 9; omega, by show 8 + (3 + 11) + lo ≤ 200; omega⟩) ⟨fun a U g mk q => ⟨q.1, q.2.1, tk_E.call q.2.2.1, tk_X.call q.2.2.2.1, tk_Z.call q.2.2.2.2.1, q.2.2.2.2.2⟩, va_recv hK hP (ci := 3) (q0 := 1) rfl hW0, fun U hU hW => ⟨rfl, by rw [hU], tk_E.warm hW hE, tk_X.warm hW hXx, tk_Z.at hZz hS hU hW hFc, by rw [hU]; exact tk_lastP (ws := [(o, .inl (ka 5, 1, .inr (.inl g)))]) hP, (tk_lastD (ws := [(o, .inl (ka 5, 1, .inr (.inl g)))]) hD).weaken (fun _ _ _ _ => trivial)⟩⟩ rfl rfl hl.1 rfl (lv_room (Nat.le_of_ble_eq_true rfl)) dL_remake_4 ⟨Nat.le_refl _, Nat.le_refl _⟩) hS (fun q _ h => hFc q h) hFc (fun q _ h => hFc q h) (fun E9 ce q9 u t H1 locs ht hvm hpx hBX hz1 hk1 hS hce hcv hcl => ?_) (fun r u t H1 locs ht hvm hw hB hz1 hk1 hS => hw.elim)
  obtain ⟨rfl, hB⟩ := hBX
  have hB1 : va_P (dC, dI) clB We H1 := by rw [← ht]; exact hB
  obtain ⟨hP, hD⟩ := tk_joinW (ws := [(o, .inl (ka 5, 1, .inr (.inl g)))]) (wc := Wd) hP hD hk1 hFc hB1 hm
  refine vx_catch (pc := 4) (name := xIAE) hown [] ⟨0, 9, 12, 13⟩ [⟨0, 9, 15, 15⟩, ⟨0, 9, 18, 19⟩] (hTb.trans rfl) (fun z hz => by cases hz) (by decide) (by decide) (hq _ wi_215) (va_Nw.use rfl (hXx.1 _ (by decide +kernel))) hce hcv hcl ?_
  generalize H1 = H at hP hS ⊢
  refine lv_astore_n (lv' := [(3, .ref q9), (0, .ref h), (1, .int x), (2, .ref o)]) hx hb dL_remake_12 rfl hl (by decide) rfl (fun ls hl => ?_)
  refine lv_iconst (v := 1) hx hb dL_remake_13 (by decide) ?_
  exact W.iret (v := 1) hx hb hr (fun t ht hW => ⟨⟨1, (), rfl, rfl, by show va_P _ _ _ t.heap; rw [ht]; exact hP⟩, hS.F ht⟩) hS.2.2 dL_remake_14

set_option maxHeartbeats 4000000 in
theorem c_L_remake_ISE (l : Launch) (dC : Nat → ClassId) (dI : Nat → Nat → Nat) (ka : Nat → ClassId) (sa : Nat → Nat) (sz : Nat) (h o : Nat) (x : Int32) (g : Nat → Int64) (Wd We : va_W) (fs : List Value) (hW0 : Wd[0]? = some (h, .inr (3, fs))) (hm : Wd.map (fun q => q.1) = We.map (fun q => q.1)) (hO : oX l dC dI ka yB_remake wB_remake (.ref h :: [.int x]) Wd We xISE) : Met l yL_remake wL_remake ({ frames := 9, cells := 1, slots := 6, locals := 200 }) (va_Pc [.ref h, .int x, .ref o] (fun U => U.heap.size = sz ∧ tk_E dC dI ka U ∧ tk_X sa U ∧ tk_Z (va_A ((o, .inl (ka 5, 1, .inr (.inl g))) :: Wd) sz) U U.heap ∧ tk_N U ∧ va_P (dC, dI) clB ((o, .inl (ka 5, 1, .inr (.inl g))) :: Wd) U.heap ∧ va_D (fun _ => True) ((o, .inl (ka 5, 1, .inr (.inl g))) :: Wd))) (va_Qi (fun (r' : Int32) (_ : Unit) => r' = 2) (fun _ t => va_P (dC, dI) clB ((o, .inl (ka 5, 1, .inr (.inl g))) :: We) t.heap) (va_A ((o, .inl (ka 5, 1, .inr (.inl g))) :: Wd) sz)) 1 6 (va_A ((o, .inl (ka 5, 1, .inr (.inl g))) :: Wd) sz) := by
  obtain ⟨fr, lo, hfr, hlo, hM⟩ := hO
  refine va_MetW (cc := cL_remake) (maxL := 4) (ret := some .int) (hh := hL_remake) (by decide) rfl ?_
  intro p e s m args below meth c s₁ B hml hv
  obtain ⟨rfl, hsz, hE, hXx, hZz, hNn, hP, hD0⟩ := hv
  have hx := B.exec
  have hb := B.bytes
  have hr := B.returns
  have hts := atoms_spec (ws := wL_remake) B.pre
  have hq : ∀ w ∈ lwg, w.before _ s = true := fun w h => hts w (List.mem_cons_of_mem _ h)
  have hown : s.vm.findClass RL = some m.cls := findClass_of_methodNamed B.named
  have hlocks := B.notSynchronized
  have hK := hE.1
  have hN := hE.2
  subst hsz
  have hD := hD0.self (sz := s.heap.size)
  generalize hAe : va_A ((o, .inl (ka 5, 1, .inr (.inl g))) :: Wd) s.heap.size = A at hD hZz ⊢
  have hA : ∀ q : Nat, s.heap.size ≤ q → A q := fun q h => by rw [← hAe]; exact Or.inr h
  have hS : va_S A s.heap s.heap [] := va_S.rf
  have hl := lv_entry ([.ref h, .int x, .ref o]) (n := 4) (Nat.le_of_ble_eq_true rfl)
  rw [lg_entry_eq]
  generalize (lg_sl ([.ref h, .int x, .ref o]) ++ List.replicate (4 - (lg_sl ([.ref h, .int x, .ref o])).length) Slot.unset).toArray = ls at hl ⊢
  have hl : lv_has ls 4 [(0, .ref h), (1, .int x), (2, .ref o)] := hl
  refine lv_aload_n hx hb dL_remake_0 rfl (lv_at hl 2 rfl) ?_
  refine lv_iconst (v := 0) hx hb dL_remake_1 (by decide) ?_
  refine lv_aload_n hx hb dL_remake_2 rfl (lv_at hl 0 rfl) ?_
  refine lv_iload_n hx hb dL_remake_3 rfl (lv_at hl 1 rfl) ?_
  have hP : va_P (dC, dI) clB ([(o, .inl (ka 5, 1, .inr (.inl g)))] ++ Wd) s.heap := hP
  have hD : va_D A ([(o, .inl (ka 5, 1, .inr (.inl g)))] ++ Wd) := hD
  have hFc := tk_freeG (ws := [(o, .inl (ka 5, 1, .inr (.inl g)))]) (wc := Wd) hD hS hA
  have hTb := vx_table (x := yL_remake) B (hq _ wi_415)
  refine vx_calli (vx_runV (As := [.int x]) (rest := [.int 0, .ref o]) ⟨hx, hb, hml, hown, hts⟩ (hM sa _) (cwV 1 hts (tw_V wi_416 wi_417 wi_418 wi_24 wi_419) rfl rfl rfl (by decide +kernel) ⟨by show fr + 1 ≤ 9; omega, by show 8 + (3 + 11) + lo ≤ 200; omega⟩) ⟨fun a U g mk q => ⟨q.1, q.2.1, tk_E.call q.2.2.1, tk_X.call q.2.2.2.1, tk_Z.call q.2.2.2.2.1, q.2.2.2.2.2⟩, va_recv hK hP (ci := 3) (q0 := 1) rfl hW0, fun U hU hW => ⟨rfl, by rw [hU], tk_E.warm hW hE, tk_X.warm hW hXx, tk_Z.at hZz hS hU hW hFc, by rw [hU]; exact tk_lastP (ws := [(o, .inl (ka 5, 1, .inr (.inl g)))]) hP, (tk_lastD (ws := [(o, .inl (ka 5, 1, .inr (.inl g)))]) hD).weaken (fun _ _ _ _ => trivial)⟩⟩ rfl rfl hl.1 rfl (lv_room (Nat.le_of_ble_eq_true rfl)) dL_remake_4 ⟨Nat.le_refl _, Nat.le_refl _⟩) hS (fun q _ h => hFc q h) hFc (fun q _ h => hFc q h) (fun E9 ce q9 u t H1 locs ht hvm hpx hBX hz1 hk1 hS hce hcv hcl => ?_) (fun r u t H1 locs ht hvm hw hB hz1 hk1 hS => hw.elim)
  obtain ⟨rfl, hB⟩ := hBX
  have hB1 : va_P (dC, dI) clB We H1 := by rw [← ht]; exact hB
  obtain ⟨hP, hD⟩ := tk_joinW (ws := [(o, .inl (ka 5, 1, .inr (.inl g)))]) (wc := Wd) hP hD hk1 hFc hB1 hm
  refine vx_catch (pc := 4) (name := xISE) hown [⟨0, 9, 12, 13⟩] ⟨0, 9, 15, 15⟩ [⟨0, 9, 18, 19⟩] (hTb.trans rfl) (fun z hz => by
    rcases (by simpa using hz : z = ⟨0, 9, 12, 13⟩) with rfl
    · exact Or.inr ⟨by decide, xIAE, hq _ wi_215, hNn.1⟩) (by decide) (by decide) (hq _ wi_216) (va_Nw.use rfl (hXx.1 _ (by decide +kernel))) hce hcv hcl ?_
  generalize H1 = H at hP hS ⊢
  refine lv_astore_n (lv' := [(3, .ref q9), (0, .ref h), (1, .int x), (2, .ref o)]) hx hb dL_remake_15 rfl hl (by decide) rfl (fun ls hl => ?_)
  refine lv_iconst (v := 2) hx hb dL_remake_16 (by decide) ?_
  exact W.iret (v := 2) hx hb hr (fun t ht hW => ⟨⟨2, (), rfl, rfl, by show va_P _ _ _ t.heap; rw [ht]; exact hP⟩, hS.F ht⟩) hS.2.2 dL_remake_17

set_option maxHeartbeats 4000000 in
theorem c_L_remake_UOE (l : Launch) (dC : Nat → ClassId) (dI : Nat → Nat → Nat) (ka : Nat → ClassId) (sa : Nat → Nat) (sz : Nat) (h o : Nat) (x : Int32) (g : Nat → Int64) (Wd We : va_W) (fs : List Value) (hW0 : Wd[0]? = some (h, .inr (3, fs))) (hm : Wd.map (fun q => q.1) = We.map (fun q => q.1)) (hO : oX l dC dI ka yB_remake wB_remake (.ref h :: [.int x]) Wd We xUOE) : Met l yL_remake wL_remake ({ frames := 9, cells := 1, slots := 6, locals := 200 }) (va_Pc [.ref h, .int x, .ref o] (fun U => U.heap.size = sz ∧ tk_E dC dI ka U ∧ tk_X sa U ∧ tk_Z (va_A ((o, .inl (ka 5, 1, .inr (.inl g))) :: Wd) sz) U U.heap ∧ tk_N U ∧ va_P (dC, dI) clB ((o, .inl (ka 5, 1, .inr (.inl g))) :: Wd) U.heap ∧ va_D (fun _ => True) ((o, .inl (ka 5, 1, .inr (.inl g))) :: Wd))) (va_Qi (fun (r' : Int32) (_ : Unit) => r' = 3) (fun _ t => va_P (dC, dI) clB ((o, .inl (ka 5, 1, .inr (.inl g))) :: We) t.heap) (va_A ((o, .inl (ka 5, 1, .inr (.inl g))) :: Wd) sz)) 1 6 (va_A ((o, .inl (ka 5, 1, .inr (.inl g))) :: Wd) sz) := by
  obtain ⟨fr, lo, hfr, hlo, hM⟩ := hO
  refine va_MetW (cc := cL_remake) (maxL := 4) (ret := some .int) (hh := hL_remake) (by decide) rfl ?_
  intro p e s m args below meth c s₁ B hml hv
  obtain ⟨rfl, hsz, hE, hXx, hZz, hNn, hP, hD0⟩ := hv
  have hx := B.exec
  have hb := B.bytes
  have hr := B.returns
  have hts := atoms_spec (ws := wL_remake) B.pre
  have hq : ∀ w ∈ lwg, w.before _ s = true := fun w h => hts w (List.mem_cons_of_mem _ h)
  have hown : s.vm.findClass RL = some m.cls := findClass_of_methodNamed B.named
  have hlocks := B.notSynchronized
  have hK := hE.1
  have hN := hE.2
  subst hsz
  have hD := hD0.self (sz := s.heap.size)
  generalize hAe : va_A ((o, .inl (ka 5, 1, .inr (.inl g))) :: Wd) s.heap.size = A at hD hZz ⊢
  have hA : ∀ q : Nat, s.heap.size ≤ q → A q := fun q h => by rw [← hAe]; exact Or.inr h
  have hS : va_S A s.heap s.heap [] := va_S.rf
  have hl := lv_entry ([.ref h, .int x, .ref o]) (n := 4) (Nat.le_of_ble_eq_true rfl)
  rw [lg_entry_eq]
  generalize (lg_sl ([.ref h, .int x, .ref o]) ++ List.replicate (4 - (lg_sl ([.ref h, .int x, .ref o])).length) Slot.unset).toArray = ls at hl ⊢
  have hl : lv_has ls 4 [(0, .ref h), (1, .int x), (2, .ref o)] := hl
  refine lv_aload_n hx hb dL_remake_0 rfl (lv_at hl 2 rfl) ?_
  refine lv_iconst (v := 0) hx hb dL_remake_1 (by decide) ?_
  refine lv_aload_n hx hb dL_remake_2 rfl (lv_at hl 0 rfl) ?_
  refine lv_iload_n hx hb dL_remake_3 rfl (lv_at hl 1 rfl) ?_
  have hP : va_P (dC, dI) clB ([(o, .inl (ka 5, 1, .inr (.inl g)))] ++ Wd) s.heap := hP
  have hD : va_D A ([(o, .inl (ka 5, 1, .inr (.inl g)))] ++ Wd) := hD
  have hFc := tk_freeG (ws := [(o, .inl (ka 5, 1, .inr (.inl g)))]) (wc := Wd) hD hS hA
  have hTb := vx_table (x := yL_remake) B (hq _ wi_415)
  refine vx_calli (vx_runV (As := [.int x]) (rest := [.int 0, .ref o]) ⟨hx, hb, hml, hown, hts⟩ (hM sa _) (cwV 1 hts (tw_V wi_416 wi_417 wi_418 wi_24 wi_419) rfl rfl rfl (by decide +kernel) ⟨by show fr + 1 ≤ 9; omega, by show 8 + (3 + 11) + lo ≤ 200; omega⟩) ⟨fun a U g mk q => ⟨q.1, q.2.1, tk_E.call q.2.2.1, tk_X.call q.2.2.2.1, tk_Z.call q.2.2.2.2.1, q.2.2.2.2.2⟩, va_recv hK hP (ci := 3) (q0 := 1) rfl hW0, fun U hU hW => ⟨rfl, by rw [hU], tk_E.warm hW hE, tk_X.warm hW hXx, tk_Z.at hZz hS hU hW hFc, by rw [hU]; exact tk_lastP (ws := [(o, .inl (ka 5, 1, .inr (.inl g)))]) hP, (tk_lastD (ws := [(o, .inl (ka 5, 1, .inr (.inl g)))]) hD).weaken (fun _ _ _ _ => trivial)⟩⟩ rfl rfl hl.1 rfl (lv_room (Nat.le_of_ble_eq_true rfl)) dL_remake_4 ⟨Nat.le_refl _, Nat.le_refl _⟩) hS (fun q _ h => hFc q h) hFc (fun q _ h => hFc q h) (fun E9 ce q9 u t H1 locs ht hvm hpx hBX hz1 hk1 hS hce hcv hcl => ?_) (fun r u t H1 locs ht hvm hw hB hz1 hk1 hS => hw.elim)
  obtain ⟨rfl, hB⟩ := hBX
  have hB1 : va_P (dC, dI) clB We H1 := by rw [← ht]; exact hB
  obtain ⟨hP, hD⟩ := tk_joinW (ws := [(o, .inl (ka 5, 1, .inr (.inl g)))]) (wc := Wd) hP hD hk1 hFc hB1 hm
  refine vx_catch (pc := 4) (name := xUOE) hown [⟨0, 9, 12, 13⟩, ⟨0, 9, 15, 15⟩] ⟨0, 9, 18, 19⟩ [] (hTb.trans rfl) (fun z hz => by
    rcases (by simpa using hz : z = ⟨0, 9, 12, 13⟩ ∨ z = ⟨0, 9, 15, 15⟩) with rfl | rfl
    · exact Or.inr ⟨by decide, xIAE, hq _ wi_215, hNn.2.2.2.1⟩
    · exact Or.inr ⟨by decide, xISE, hq _ wi_216, hNn.2.2.2.2.1⟩) (by decide) (by decide) (hq _ wi_218) (va_Nw.use rfl (hXx.1 _ (by decide +kernel))) hce hcv hcl ?_
  generalize H1 = H at hP hS ⊢
  refine lv_astore_n (lv' := [(3, .ref q9), (0, .ref h), (1, .int x), (2, .ref o)]) hx hb dL_remake_18 rfl hl (by decide) rfl (fun ls hl => ?_)
  refine lv_iconst (v := 3) hx hb dL_remake_19 (by decide) ?_
  exact W.iret (v := 3) hx hb hr (fun t ht hW => ⟨⟨3, (), rfl, rfl, by show va_P _ _ _ t.heap; rw [ht]; exact hP⟩, hS.F ht⟩) hS.2.2 dL_remake_20

set_option maxHeartbeats 4000000 in
theorem c_L_clean_ok (l : Launch) (dC : Nat → ClassId) (dI : Nat → Nat → Nat) (ka : Nat → ClassId) (sz : Nat) (h o : Nat) (x : Int32) (r : Int32) (g : Nat → Int64) (Wd We : va_W) (fs : List Value) (hW0 : Wd[0]? = some (h, .inr (3, fs))) (hm : Wd.map (fun q => q.1) = We.map (fun q => q.1)) (hO : oI l dC dI ka yB_clean wB_clean (.ref h :: [.int x]) Wd We r) : Met l yL_clean wL_clean ({ frames := 9, cells := 0, slots := 0, locals := 200 }) (va_Pc [.ref h, .int x, .ref o] (fun U => U.heap.size = sz ∧ tk_E dC dI ka U ∧ va_P (dC, dI) clB ((o, .inl (ka 5, 1, .inr (.inl g))) :: Wd) U.heap ∧ va_D (fun _ => True) ((o, .inl (ka 5, 1, .inr (.inl g))) :: Wd))) (va_Qi (fun (r' : Int32) (_ : Unit) => r' = 0) (fun _ t => va_P (dC, dI) clB ((o, .inl (ka 5, 1, .inr (.inl (vp_updL g 0 r.toInt64)))) :: We) t.heap) (va_A ((o, .inl (ka 5, 1, .inr (.inl g))) :: Wd) sz)) 0 0 (va_A ((o, .inl (ka 5, 1, .inr (.inl g))) :: Wd) sz) := by
  obtain ⟨fr, lo, hfr, hlo, hM⟩ := hO
  refine va_MetW (cc := cL_clean) (maxL := 4) (ret := some .int) (hh := hL_clean) (by decide) rfl ?_
  intro p e s m args below meth c s₁ B hml hv
  obtain ⟨rfl, hsz, hE, hP, hD0⟩ := hv
  have hx := B.exec
  have hb := B.bytes
  have hr := B.returns
  have hts := atoms_spec (ws := wL_clean) B.pre
  have hq : ∀ w ∈ lwg, w.before _ s = true := fun w h => hts w (List.mem_cons_of_mem _ h)
  have hown : s.vm.findClass RL = some m.cls := findClass_of_methodNamed B.named
  have hlocks := B.notSynchronized
  have hK := hE.1
  have hN := hE.2
  subst hsz
  have hD := hD0.self (sz := s.heap.size)
  generalize hAe : va_A ((o, .inl (ka 5, 1, .inr (.inl g))) :: Wd) s.heap.size = A at hD ⊢
  have hA : ∀ q : Nat, s.heap.size ≤ q → A q := fun q h => by rw [← hAe]; exact Or.inr h
  have hS : va_S A s.heap s.heap [] := va_S.rf
  have hl := lv_entry ([.ref h, .int x, .ref o]) (n := 4) (Nat.le_of_ble_eq_true rfl)
  rw [lg_entry_eq]
  generalize (lg_sl ([.ref h, .int x, .ref o]) ++ List.replicate (4 - (lg_sl ([.ref h, .int x, .ref o])).length) Slot.unset).toArray = ls at hl ⊢
  have hl : lv_has ls 4 [(0, .ref h), (1, .int x), (2, .ref o)] := hl
  refine lv_aload_n hx hb dL_clean_0 rfl (lv_at hl 2 rfl) ?_
  refine lv_iconst (v := 0) hx hb dL_clean_1 (by decide) ?_
  refine lv_aload_n hx hb dL_clean_2 rfl (lv_at hl 0 rfl) ?_
  refine lv_iload_n hx hb dL_clean_3 rfl (lv_at hl 1 rfl) ?_
  have hP : va_P (dC, dI) clB ([(o, .inl (ka 5, 1, .inr (.inl g)))] ++ Wd) s.heap := hP
  have hD : va_D A ([(o, .inl (ka 5, 1, .inr (.inl g)))] ++ Wd) := hD
  have hFc := tk_freeG (ws := [(o, .inl (ka 5, 1, .inr (.inl g)))]) (wc := Wd) hD hS hA
  refine va_calli (va_runV (As := [.int x]) (rest := [.int 0, .ref o]) ⟨hx, hb, hml, hown, hts⟩ (hM _) (cwV 1 hts (tw_V wi_432 wi_433 wi_434 wi_24 wi_435) rfl rfl rfl (by decide +kernel) ⟨by show fr + 1 ≤ 9; omega, by show 8 + (5 + 11) + lo ≤ 200; omega⟩) ⟨fun a U g mk q => ⟨q.1, q.2.1, tk_E.call q.2.2.1, q.2.2.2⟩, va_recv hK hP (ci := 3) (q0 := 1) rfl hW0, fun U hU hW => ⟨rfl, by rw [hU], tk_E.warm hW hE, by rw [hU]; exact tk_lastP (ws := [(o, .inl (ka 5, 1, .inr (.inl g)))]) hP, (tk_lastD (ws := [(o, .inl (ka 5, 1, .inr (.inl g)))]) hD).weaken (fun _ _ _ _ => trivial)⟩⟩ rfl rfl hl.1 rfl (lv_room (Nat.le_of_ble_eq_true rfl)) dL_clean_4 ⟨Nat.zero_le _, Nat.zero_le _⟩) hS (fun q _ h => hFc q h) hFc (fun r9 u9 t H1 locs ht hvm hw hB hz1 hk1 hS => ?_)
  subst hw
  have hB1 : va_P (dC, dI) clB We H1 := by rw [← ht]; exact hB
  obtain ⟨hP, hD⟩ := tk_joinW (ws := [(o, .inl (ka 5, 1, .inr (.inl g)))]) (wc := Wd) hP hD hk1 hFc hB1 hm
  generalize H1 = H at hP hS ⊢
  refine lv_i2l hx hb dL_clean_7 rfl ?_
  refine va_last hx hb hK hP hD hS 0 5 rfl rfl (vp_in_nI (n := 0) (N := 1) (by decide) (by decide)) dL_clean_8 (fun H locs hP hD hS => ?_)
  have hP : va_P (dC, dI) clB ((o, .inl (ka 5, 1, .inr (.inl (vp_updL g 0 r9.toInt64)))) :: We) H := hP
  refine lv_goto (tgt := 18) hx hb dL_clean_9 (by decide) ?_
  refine lv_iconst (v := 0) hx hb dL_clean_18 (by decide) ?_
  exact W.iret (v := 0) hx hb hr (fun t ht hW => ⟨⟨0, (), rfl, rfl, by show va_P _ _ _ t.heap; rw [ht]; exact hP⟩, hS.F ht⟩) hS.2.2 dL_clean_19

set_option maxHeartbeats 4000000 in
theorem c_L_clean_IAE (l : Launch) (dC : Nat → ClassId) (dI : Nat → Nat → Nat) (ka : Nat → ClassId) (sa : Nat → Nat) (sz : Nat) (h o : Nat) (x : Int32) (g : Nat → Int64) (Wd We : va_W) (fs : List Value) (hW0 : Wd[0]? = some (h, .inr (3, fs))) (hm : Wd.map (fun q => q.1) = We.map (fun q => q.1)) (hO : oX l dC dI ka yB_clean wB_clean (.ref h :: [.int x]) Wd We xIAE) : Met l yL_clean wL_clean ({ frames := 9, cells := 1, slots := 6, locals := 200 }) (va_Pc [.ref h, .int x, .ref o] (fun U => U.heap.size = sz ∧ tk_E dC dI ka U ∧ tk_X sa U ∧ tk_Z (va_A ((o, .inl (ka 5, 1, .inr (.inl g))) :: Wd) sz) U U.heap ∧ tk_N U ∧ va_P (dC, dI) clB ((o, .inl (ka 5, 1, .inr (.inl g))) :: Wd) U.heap ∧ va_D (fun _ => True) ((o, .inl (ka 5, 1, .inr (.inl g))) :: Wd))) (va_Qi (fun (r' : Int32) (_ : Unit) => r' = 1) (fun _ t => va_P (dC, dI) clB ((o, .inl (ka 5, 1, .inr (.inl g))) :: We) t.heap) (va_A ((o, .inl (ka 5, 1, .inr (.inl g))) :: Wd) sz)) 1 6 (va_A ((o, .inl (ka 5, 1, .inr (.inl g))) :: Wd) sz) := by
  obtain ⟨fr, lo, hfr, hlo, hM⟩ := hO
  refine va_MetW (cc := cL_clean) (maxL := 4) (ret := some .int) (hh := hL_clean) (by decide) rfl ?_
  intro p e s m args below meth c s₁ B hml hv
  obtain ⟨rfl, hsz, hE, hXx, hZz, hNn, hP, hD0⟩ := hv
  have hx := B.exec
  have hb := B.bytes
  have hr := B.returns
  have hts := atoms_spec (ws := wL_clean) B.pre
  have hq : ∀ w ∈ lwg, w.before _ s = true := fun w h => hts w (List.mem_cons_of_mem _ h)
  have hown : s.vm.findClass RL = some m.cls := findClass_of_methodNamed B.named
  have hlocks := B.notSynchronized
  have hK := hE.1
  have hN := hE.2
  subst hsz
  have hD := hD0.self (sz := s.heap.size)
  generalize hAe : va_A ((o, .inl (ka 5, 1, .inr (.inl g))) :: Wd) s.heap.size = A at hD hZz ⊢
  have hA : ∀ q : Nat, s.heap.size ≤ q → A q := fun q h => by rw [← hAe]; exact Or.inr h
  have hS : va_S A s.heap s.heap [] := va_S.rf
  have hl := lv_entry ([.ref h, .int x, .ref o]) (n := 4) (Nat.le_of_ble_eq_true rfl)
  rw [lg_entry_eq]
  generalize (lg_sl ([.ref h, .int x, .ref o]) ++ List.replicate (4 - (lg_sl ([.ref h, .int x, .ref o])).length) Slot.unset).toArray = ls at hl ⊢
  have hl : lv_has ls 4 [(0, .ref h), (1, .int x), (2, .ref o)] := hl
  refine lv_aload_n hx hb dL_clean_0 rfl (lv_at hl 2 rfl) ?_
  refine lv_iconst (v := 0) hx hb dL_clean_1 (by decide) ?_
  refine lv_aload_n hx hb dL_clean_2 rfl (lv_at hl 0 rfl) ?_
  refine lv_iload_n hx hb dL_clean_3 rfl (lv_at hl 1 rfl) ?_
  have hP : va_P (dC, dI) clB ([(o, .inl (ka 5, 1, .inr (.inl g)))] ++ Wd) s.heap := hP
  have hD : va_D A ([(o, .inl (ka 5, 1, .inr (.inl g)))] ++ Wd) := hD
  have hFc := tk_freeG (ws := [(o, .inl (ka 5, 1, .inr (.inl g)))]) (wc := Wd) hD hS hA
  have hTb := vx_table (x := yL_clean) B (hq _ wi_431)
  refine vx_calli (vx_runV (As := [.int x]) (rest := [.int 0, .ref o]) ⟨hx, hb, hml, hown, hts⟩ (hM sa _) (cwV 1 hts (tw_V wi_432 wi_433 wi_434 wi_24 wi_435) rfl rfl rfl (by decide +kernel) ⟨by show fr + 1 ≤ 9; omega, by show 8 + (5 + 11) + lo ≤ 200; omega⟩) ⟨fun a U g mk q => ⟨q.1, q.2.1, tk_E.call q.2.2.1, tk_X.call q.2.2.2.1, tk_Z.call q.2.2.2.2.1, q.2.2.2.2.2⟩, va_recv hK hP (ci := 3) (q0 := 1) rfl hW0, fun U hU hW => ⟨rfl, by rw [hU], tk_E.warm hW hE, tk_X.warm hW hXx, tk_Z.at hZz hS hU hW hFc, by rw [hU]; exact tk_lastP (ws := [(o, .inl (ka 5, 1, .inr (.inl g)))]) hP, (tk_lastD (ws := [(o, .inl (ka 5, 1, .inr (.inl g)))]) hD).weaken (fun _ _ _ _ => trivial)⟩⟩ rfl rfl hl.1 rfl (lv_room (Nat.le_of_ble_eq_true rfl)) dL_clean_4 ⟨Nat.le_refl _, Nat.le_refl _⟩) hS (fun q _ h => hFc q h) hFc (fun q _ h => hFc q h) (fun E9 ce q9 u t H1 locs ht hvm hpx hBX hz1 hk1 hS hce hcv hcl => ?_) (fun r u t H1 locs ht hvm hw hB hz1 hk1 hS => hw.elim)
  obtain ⟨rfl, hB⟩ := hBX
  have hB1 : va_P (dC, dI) clB We H1 := by rw [← ht]; exact hB
  obtain ⟨hP, hD⟩ := tk_joinW (ws := [(o, .inl (ka 5, 1, .inr (.inl g)))]) (wc := Wd) hP hD hk1 hFc hB1 hm
  refine vx_catch (pc := 4) (name := xIAE) hown [] ⟨0, 9, 12, 13⟩ [⟨0, 9, 15, 19⟩] (hTb.trans rfl) (fun z hz => by cases hz) (by decide) (by decide) (hq _ wi_215) (va_Nw.use rfl (hXx.1 _ (by decide +kernel))) hce hcv hcl ?_
  generalize H1 = H at hP hS ⊢
  refine lv_astore_n (lv' := [(3, .ref q9), (0, .ref h), (1, .int x), (2, .ref o)]) hx hb dL_clean_12 rfl hl (by decide) rfl (fun ls hl => ?_)
  refine lv_iconst (v := 1) hx hb dL_clean_13 (by decide) ?_
  exact W.iret (v := 1) hx hb hr (fun t ht hW => ⟨⟨1, (), rfl, rfl, by show va_P _ _ _ t.heap; rw [ht]; exact hP⟩, hS.F ht⟩) hS.2.2 dL_clean_14

set_option maxHeartbeats 4000000 in
theorem c_L_clean_UOE (l : Launch) (dC : Nat → ClassId) (dI : Nat → Nat → Nat) (ka : Nat → ClassId) (sa : Nat → Nat) (sz : Nat) (h o : Nat) (x : Int32) (g : Nat → Int64) (Wd We : va_W) (fs : List Value) (hW0 : Wd[0]? = some (h, .inr (3, fs))) (hm : Wd.map (fun q => q.1) = We.map (fun q => q.1)) (hO : oX l dC dI ka yB_clean wB_clean (.ref h :: [.int x]) Wd We xUOE) : Met l yL_clean wL_clean ({ frames := 9, cells := 1, slots := 6, locals := 200 }) (va_Pc [.ref h, .int x, .ref o] (fun U => U.heap.size = sz ∧ tk_E dC dI ka U ∧ tk_X sa U ∧ tk_Z (va_A ((o, .inl (ka 5, 1, .inr (.inl g))) :: Wd) sz) U U.heap ∧ tk_N U ∧ va_P (dC, dI) clB ((o, .inl (ka 5, 1, .inr (.inl g))) :: Wd) U.heap ∧ va_D (fun _ => True) ((o, .inl (ka 5, 1, .inr (.inl g))) :: Wd))) (va_Qi (fun (r' : Int32) (_ : Unit) => r' = 2) (fun _ t => va_P (dC, dI) clB ((o, .inl (ka 5, 1, .inr (.inl g))) :: We) t.heap) (va_A ((o, .inl (ka 5, 1, .inr (.inl g))) :: Wd) sz)) 1 6 (va_A ((o, .inl (ka 5, 1, .inr (.inl g))) :: Wd) sz) := by
  obtain ⟨fr, lo, hfr, hlo, hM⟩ := hO
  refine va_MetW (cc := cL_clean) (maxL := 4) (ret := some .int) (hh := hL_clean) (by decide) rfl ?_
  intro p e s m args below meth c s₁ B hml hv
  obtain ⟨rfl, hsz, hE, hXx, hZz, hNn, hP, hD0⟩ := hv
  have hx := B.exec
  have hb := B.bytes
  have hr := B.returns
  have hts := atoms_spec (ws := wL_clean) B.pre
  have hq : ∀ w ∈ lwg, w.before _ s = true := fun w h => hts w (List.mem_cons_of_mem _ h)
  have hown : s.vm.findClass RL = some m.cls := findClass_of_methodNamed B.named
  have hlocks := B.notSynchronized
  have hK := hE.1
  have hN := hE.2
  subst hsz
  have hD := hD0.self (sz := s.heap.size)
  generalize hAe : va_A ((o, .inl (ka 5, 1, .inr (.inl g))) :: Wd) s.heap.size = A at hD hZz ⊢
  have hA : ∀ q : Nat, s.heap.size ≤ q → A q := fun q h => by rw [← hAe]; exact Or.inr h
  have hS : va_S A s.heap s.heap [] := va_S.rf
  have hl := lv_entry ([.ref h, .int x, .ref o]) (n := 4) (Nat.le_of_ble_eq_true rfl)
  rw [lg_entry_eq]
  generalize (lg_sl ([.ref h, .int x, .ref o]) ++ List.replicate (4 - (lg_sl ([.ref h, .int x, .ref o])).length) Slot.unset).toArray = ls at hl ⊢
  have hl : lv_has ls 4 [(0, .ref h), (1, .int x), (2, .ref o)] := hl
  refine lv_aload_n hx hb dL_clean_0 rfl (lv_at hl 2 rfl) ?_
  refine lv_iconst (v := 0) hx hb dL_clean_1 (by decide) ?_
  refine lv_aload_n hx hb dL_clean_2 rfl (lv_at hl 0 rfl) ?_
  refine lv_iload_n hx hb dL_clean_3 rfl (lv_at hl 1 rfl) ?_
  have hP : va_P (dC, dI) clB ([(o, .inl (ka 5, 1, .inr (.inl g)))] ++ Wd) s.heap := hP
  have hD : va_D A ([(o, .inl (ka 5, 1, .inr (.inl g)))] ++ Wd) := hD
  have hFc := tk_freeG (ws := [(o, .inl (ka 5, 1, .inr (.inl g)))]) (wc := Wd) hD hS hA
  have hTb := vx_table (x := yL_clean) B (hq _ wi_431)
  refine vx_calli (vx_runV (As := [.int x]) (rest := [.int 0, .ref o]) ⟨hx, hb, hml, hown, hts⟩ (hM sa _) (cwV 1 hts (tw_V wi_432 wi_433 wi_434 wi_24 wi_435) rfl rfl rfl (by decide +kernel) ⟨by show fr + 1 ≤ 9; omega, by show 8 + (5 + 11) + lo ≤ 200; omega⟩) ⟨fun a U g mk q => ⟨q.1, q.2.1, tk_E.call q.2.2.1, tk_X.call q.2.2.2.1, tk_Z.call q.2.2.2.2.1, q.2.2.2.2.2⟩, va_recv hK hP (ci := 3) (q0 := 1) rfl hW0, fun U hU hW => ⟨rfl, by rw [hU], tk_E.warm hW hE, tk_X.warm hW hXx, tk_Z.at hZz hS hU hW hFc, by rw [hU]; exact tk_lastP (ws := [(o, .inl (ka 5, 1, .inr (.inl g)))]) hP, (tk_lastD (ws := [(o, .inl (ka 5, 1, .inr (.inl g)))]) hD).weaken (fun _ _ _ _ => trivial)⟩⟩ rfl rfl hl.1 rfl (lv_room (Nat.le_of_ble_eq_true rfl)) dL_clean_4 ⟨Nat.le_refl _, Nat.le_refl _⟩) hS (fun q _ h => hFc q h) hFc (fun q _ h => hFc q h) (fun E9 ce q9 u t H1 locs ht hvm hpx hBX hz1 hk1 hS hce hcv hcl => ?_) (fun r u t H1 locs ht hvm hw hB hz1 hk1 hS => hw.elim)
  obtain ⟨rfl, hB⟩ := hBX
  have hB1 : va_P (dC, dI) clB We H1 := by rw [← ht]; exact hB
  obtain ⟨hP, hD⟩ := tk_joinW (ws := [(o, .inl (ka 5, 1, .inr (.inl g)))]) (wc := Wd) hP hD hk1 hFc hB1 hm
  refine vx_catch (pc := 4) (name := xUOE) hown [⟨0, 9, 12, 13⟩] ⟨0, 9, 15, 19⟩ [] (hTb.trans rfl) (fun z hz => by
    rcases (by simpa using hz : z = ⟨0, 9, 12, 13⟩) with rfl
    · exact Or.inr ⟨by decide, xIAE, hq _ wi_215, hNn.2.2.2.1⟩) (by decide) (by decide) (hq _ wi_218) (va_Nw.use rfl (hXx.1 _ (by decide +kernel))) hce hcv hcl ?_
  generalize H1 = H at hP hS ⊢
  refine lv_astore_n (lv' := [(3, .ref q9), (0, .ref h), (1, .int x), (2, .ref o)]) hx hb dL_clean_15 rfl hl (by decide) rfl (fun ls hl => ?_)
  refine lv_iconst (v := 2) hx hb dL_clean_16 (by decide) ?_
  exact W.iret (v := 2) hx hb hr (fun t ht hW => ⟨⟨2, (), rfl, rfl, by show va_P _ _ _ t.heap; rw [ht]; exact hP⟩, hS.F ht⟩) hS.2.2 dL_clean_17

set_option maxHeartbeats 4000000 in
theorem c_L_sweep_ok (l : Launch) (dC : Nat → ClassId) (dI : Nat → Nat → Nat) (ka : Nat → ClassId) (sz : Nat) (h o : Nat) (r : Int32) (g : Nat → Int64) (Wd We : va_W) (fs : List Value) (hW0 : Wd[0]? = some (h, .inr (3, fs))) (hm : Wd.map (fun q => q.1) = We.map (fun q => q.1)) (hO : oI l dC dI ka yB_sweep wB_sweep (.ref h :: []) Wd We r) : Met l yL_sweep wL_sweep ({ frames := 9, cells := 0, slots := 0, locals := 200 }) (va_Pc [.ref h, .ref o] (fun U => U.heap.size = sz ∧ tk_E dC dI ka U ∧ va_P (dC, dI) clB ((o, .inl (ka 5, 1, .inr (.inl g))) :: Wd) U.heap ∧ va_D (fun _ => True) ((o, .inl (ka 5, 1, .inr (.inl g))) :: Wd))) (va_Qi (fun (r' : Int32) (_ : Unit) => r' = 0) (fun _ t => va_P (dC, dI) clB ((o, .inl (ka 5, 1, .inr (.inl (vp_updL g 0 r.toInt64)))) :: We) t.heap) (va_A ((o, .inl (ka 5, 1, .inr (.inl g))) :: Wd) sz)) 0 0 (va_A ((o, .inl (ka 5, 1, .inr (.inl g))) :: Wd) sz) := by
  obtain ⟨fr, lo, hfr, hlo, hM⟩ := hO
  refine va_MetW (cc := cL_sweep) (maxL := 3) (ret := some .int) (hh := hL_sweep) (by decide) rfl ?_
  intro p e s m args below meth c s₁ B hml hv
  obtain ⟨rfl, hsz, hE, hP, hD0⟩ := hv
  have hx := B.exec
  have hb := B.bytes
  have hr := B.returns
  have hts := atoms_spec (ws := wL_sweep) B.pre
  have hq : ∀ w ∈ lwg, w.before _ s = true := fun w h => hts w (List.mem_cons_of_mem _ h)
  have hown : s.vm.findClass RL = some m.cls := findClass_of_methodNamed B.named
  have hlocks := B.notSynchronized
  have hK := hE.1
  have hN := hE.2
  subst hsz
  have hD := hD0.self (sz := s.heap.size)
  generalize hAe : va_A ((o, .inl (ka 5, 1, .inr (.inl g))) :: Wd) s.heap.size = A at hD ⊢
  have hA : ∀ q : Nat, s.heap.size ≤ q → A q := fun q h => by rw [← hAe]; exact Or.inr h
  have hS : va_S A s.heap s.heap [] := va_S.rf
  have hl := lv_entry ([.ref h, .ref o]) (n := 3) (Nat.le_of_ble_eq_true rfl)
  rw [lg_entry_eq]
  generalize (lg_sl ([.ref h, .ref o]) ++ List.replicate (3 - (lg_sl ([.ref h, .ref o])).length) Slot.unset).toArray = ls at hl ⊢
  have hl : lv_has ls 3 [(0, .ref h), (1, .ref o)] := hl
  refine lv_aload_n hx hb dL_sweep_0 rfl (lv_at hl 1 rfl) ?_
  refine lv_iconst (v := 0) hx hb dL_sweep_1 (by decide) ?_
  refine lv_aload_n hx hb dL_sweep_2 rfl (lv_at hl 0 rfl) ?_
  have hP : va_P (dC, dI) clB ([(o, .inl (ka 5, 1, .inr (.inl g)))] ++ Wd) s.heap := hP
  have hD : va_D A ([(o, .inl (ka 5, 1, .inr (.inl g)))] ++ Wd) := hD
  have hFc := tk_freeG (ws := [(o, .inl (ka 5, 1, .inr (.inl g)))]) (wc := Wd) hD hS hA
  refine va_calli (va_runV (As := []) (rest := [.int 0, .ref o]) ⟨hx, hb, hml, hown, hts⟩ (hM _) (cwV 0 hts (tw_V wi_440 wi_441 wi_442 wi_24 wi_443) rfl rfl rfl (by decide +kernel) ⟨by show fr + 1 ≤ 9; omega, by show 8 + (3 + 11) + lo ≤ 200; omega⟩) ⟨fun a U g mk q => ⟨q.1, q.2.1, tk_E.call q.2.2.1, q.2.2.2⟩, va_recv hK hP (ci := 3) (q0 := 1) rfl hW0, fun U hU hW => ⟨rfl, by rw [hU], tk_E.warm hW hE, by rw [hU]; exact tk_lastP (ws := [(o, .inl (ka 5, 1, .inr (.inl g)))]) hP, (tk_lastD (ws := [(o, .inl (ka 5, 1, .inr (.inl g)))]) hD).weaken (fun _ _ _ _ => trivial)⟩⟩ rfl rfl hl.1 rfl (lv_room (Nat.le_of_ble_eq_true rfl)) dL_sweep_3 ⟨Nat.zero_le _, Nat.zero_le _⟩) hS (fun q _ h => hFc q h) hFc (fun r9 u9 t H1 locs ht hvm hw hB hz1 hk1 hS => ?_)
  subst hw
  have hB1 : va_P (dC, dI) clB We H1 := by rw [← ht]; exact hB
  obtain ⟨hP, hD⟩ := tk_joinW (ws := [(o, .inl (ka 5, 1, .inr (.inl g)))]) (wc := Wd) hP hD hk1 hFc hB1 hm
  generalize H1 = H at hP hS ⊢
  refine lv_i2l hx hb dL_sweep_6 rfl ?_
  refine va_last hx hb hK hP hD hS 0 5 rfl rfl (vp_in_nI (n := 0) (N := 1) (by decide) (by decide)) dL_sweep_7 (fun H locs hP hD hS => ?_)
  have hP : va_P (dC, dI) clB ((o, .inl (ka 5, 1, .inr (.inl (vp_updL g 0 r9.toInt64)))) :: We) H := hP
  refine lv_goto (tgt := 14) hx hb dL_sweep_8 (by decide) ?_
  refine lv_iconst (v := 0) hx hb dL_sweep_14 (by decide) ?_
  exact W.iret (v := 0) hx hb hr (fun t ht hW => ⟨⟨0, (), rfl, rfl, by show va_P _ _ _ t.heap; rw [ht]; exact hP⟩, hS.F ht⟩) hS.2.2 dL_sweep_15

set_option maxHeartbeats 4000000 in
theorem c_L_sweep_UOE (l : Launch) (dC : Nat → ClassId) (dI : Nat → Nat → Nat) (ka : Nat → ClassId) (sa : Nat → Nat) (sz : Nat) (h o : Nat) (g : Nat → Int64) (Wd We : va_W) (fs : List Value) (hW0 : Wd[0]? = some (h, .inr (3, fs))) (hm : Wd.map (fun q => q.1) = We.map (fun q => q.1)) (hO : oX l dC dI ka yB_sweep wB_sweep (.ref h :: []) Wd We xUOE) : Met l yL_sweep wL_sweep ({ frames := 9, cells := 1, slots := 6, locals := 200 }) (va_Pc [.ref h, .ref o] (fun U => U.heap.size = sz ∧ tk_E dC dI ka U ∧ tk_X sa U ∧ tk_Z (va_A ((o, .inl (ka 5, 1, .inr (.inl g))) :: Wd) sz) U U.heap ∧ tk_N U ∧ va_P (dC, dI) clB ((o, .inl (ka 5, 1, .inr (.inl g))) :: Wd) U.heap ∧ va_D (fun _ => True) ((o, .inl (ka 5, 1, .inr (.inl g))) :: Wd))) (va_Qi (fun (r' : Int32) (_ : Unit) => r' = 1) (fun _ t => va_P (dC, dI) clB ((o, .inl (ka 5, 1, .inr (.inl g))) :: We) t.heap) (va_A ((o, .inl (ka 5, 1, .inr (.inl g))) :: Wd) sz)) 1 6 (va_A ((o, .inl (ka 5, 1, .inr (.inl g))) :: Wd) sz) := by
  obtain ⟨fr, lo, hfr, hlo, hM⟩ := hO
  refine va_MetW (cc := cL_sweep) (maxL := 3) (ret := some .int) (hh := hL_sweep) (by decide) rfl ?_
  intro p e s m args below meth c s₁ B hml hv
  obtain ⟨rfl, hsz, hE, hXx, hZz, hNn, hP, hD0⟩ := hv
  have hx := B.exec
  have hb := B.bytes
  have hr := B.returns
  have hts := atoms_spec (ws := wL_sweep) B.pre
  have hq : ∀ w ∈ lwg, w.before _ s = true := fun w h => hts w (List.mem_cons_of_mem _ h)
  have hown : s.vm.findClass RL = some m.cls := findClass_of_methodNamed B.named
  have hlocks := B.notSynchronized
  have hK := hE.1
  have hN := hE.2
  subst hsz
  have hD := hD0.self (sz := s.heap.size)
  generalize hAe : va_A ((o, .inl (ka 5, 1, .inr (.inl g))) :: Wd) s.heap.size = A at hD hZz ⊢
  have hA : ∀ q : Nat, s.heap.size ≤ q → A q := fun q h => by rw [← hAe]; exact Or.inr h
  have hS : va_S A s.heap s.heap [] := va_S.rf
  have hl := lv_entry ([.ref h, .ref o]) (n := 3) (Nat.le_of_ble_eq_true rfl)
  rw [lg_entry_eq]
  generalize (lg_sl ([.ref h, .ref o]) ++ List.replicate (3 - (lg_sl ([.ref h, .ref o])).length) Slot.unset).toArray = ls at hl ⊢
  have hl : lv_has ls 3 [(0, .ref h), (1, .ref o)] := hl
  refine lv_aload_n hx hb dL_sweep_0 rfl (lv_at hl 1 rfl) ?_
  refine lv_iconst (v := 0) hx hb dL_sweep_1 (by decide) ?_
  refine lv_aload_n hx hb dL_sweep_2 rfl (lv_at hl 0 rfl) ?_
  have hP : va_P (dC, dI) clB ([(o, .inl (ka 5, 1, .inr (.inl g)))] ++ Wd) s.heap := hP
  have hD : va_D A ([(o, .inl (ka 5, 1, .inr (.inl g)))] ++ Wd) := hD
  have hFc := tk_freeG (ws := [(o, .inl (ka 5, 1, .inr (.inl g)))]) (wc := Wd) hD hS hA
  have hTb := vx_table (x := yL_sweep) B (hq _ wi_439)
  refine vx_calli (vx_runV (As := []) (rest := [.int 0, .ref o]) ⟨hx, hb, hml, hown, hts⟩ (hM sa _) (cwV 0 hts (tw_V wi_440 wi_441 wi_442 wi_24 wi_443) rfl rfl rfl (by decide +kernel) ⟨by show fr + 1 ≤ 9; omega, by show 8 + (3 + 11) + lo ≤ 200; omega⟩) ⟨fun a U g mk q => ⟨q.1, q.2.1, tk_E.call q.2.2.1, tk_X.call q.2.2.2.1, tk_Z.call q.2.2.2.2.1, q.2.2.2.2.2⟩, va_recv hK hP (ci := 3) (q0 := 1) rfl hW0, fun U hU hW => ⟨rfl, by rw [hU], tk_E.warm hW hE, tk_X.warm hW hXx, tk_Z.at hZz hS hU hW hFc, by rw [hU]; exact tk_lastP (ws := [(o, .inl (ka 5, 1, .inr (.inl g)))]) hP, (tk_lastD (ws := [(o, .inl (ka 5, 1, .inr (.inl g)))]) hD).weaken (fun _ _ _ _ => trivial)⟩⟩ rfl rfl hl.1 rfl (lv_room (Nat.le_of_ble_eq_true rfl)) dL_sweep_3 ⟨Nat.le_refl _, Nat.le_refl _⟩) hS (fun q _ h => hFc q h) hFc (fun q _ h => hFc q h) (fun E9 ce q9 u t H1 locs ht hvm hpx hBX hz1 hk1 hS hce hcv hcl => ?_) (fun r u t H1 locs ht hvm hw hB hz1 hk1 hS => hw.elim)
  obtain ⟨rfl, hB⟩ := hBX
  have hB1 : va_P (dC, dI) clB We H1 := by rw [← ht]; exact hB
  obtain ⟨hP, hD⟩ := tk_joinW (ws := [(o, .inl (ka 5, 1, .inr (.inl g)))]) (wc := Wd) hP hD hk1 hFc hB1 hm
  refine vx_catch (pc := 3) (name := xUOE) hown [] ⟨0, 8, 11, 19⟩ [] (hTb.trans rfl) (fun z hz => by cases hz) (by decide) (by decide) (hq _ wi_218) (va_Nw.use rfl (hXx.1 _ (by decide +kernel))) hce hcv hcl ?_
  generalize H1 = H at hP hS ⊢
  refine lv_astore_n (lv' := [(2, .ref q9), (0, .ref h), (1, .ref o)]) hx hb dL_sweep_11 rfl hl (by decide) rfl (fun ls hl => ?_)
  refine lv_iconst (v := 1) hx hb dL_sweep_12 (by decide) ?_
  exact W.iret (v := 1) hx hb hr (fun t ht hW => ⟨⟨1, (), rfl, rfl, by show va_P _ _ _ t.heap; rw [ht]; exact hP⟩, hS.F ht⟩) hS.2.2 dL_sweep_13

set_option maxHeartbeats 4000000 in
theorem c_L_charge_ok (l : Launch) (dC : Nat → ClassId) (dI : Nat → Nat → Nat) (ka : Nat → ClassId) (sz : Nat) (h : Nat) (x : Int32) (Wd We : va_W) (fs : List Value) (hW0 : Wd[0]? = some (h, .inr (3, fs))) (hm : Wd.map (fun q => q.1) = We.map (fun q => q.1)) (hO : oV l dC dI ka yB_charge wB_charge (.ref h :: [.int x]) Wd We) : Met l yL_charge wL_charge ({ frames := 9, cells := 0, slots := 0, locals := 200 }) (va_Pc [.ref h, .int x] (fun U => U.heap.size = sz ∧ tk_E dC dI ka U ∧ va_P (dC, dI) clB Wd U.heap ∧ va_D (fun _ => True) Wd)) (va_Qi (fun (r' : Int32) (_ : Unit) => r' = 0) (fun _ t => va_P (dC, dI) clB (We) t.heap) (va_A Wd sz)) 0 0 (va_A Wd sz) := by
  obtain ⟨fr, lo, hfr, hlo, hM⟩ := hO
  refine va_MetW (cc := cL_charge) (maxL := 3) (ret := some .int) (hh := hL_charge) (by decide) rfl ?_
  intro p e s m args below meth c s₁ B hml hv
  obtain ⟨rfl, hsz, hE, hP, hD0⟩ := hv
  have hx := B.exec
  have hb := B.bytes
  have hr := B.returns
  have hts := atoms_spec (ws := wL_charge) B.pre
  have hq : ∀ w ∈ lwg, w.before _ s = true := fun w h => hts w (List.mem_cons_of_mem _ h)
  have hown : s.vm.findClass RL = some m.cls := findClass_of_methodNamed B.named
  have hlocks := B.notSynchronized
  have hK := hE.1
  have hN := hE.2
  subst hsz
  have hD := hD0.self (sz := s.heap.size)
  generalize hAe : va_A Wd s.heap.size = A at hD ⊢
  have hA : ∀ q : Nat, s.heap.size ≤ q → A q := fun q h => by rw [← hAe]; exact Or.inr h
  have hS : va_S A s.heap s.heap [] := va_S.rf
  have hl := lv_entry ([.ref h, .int x]) (n := 3) (Nat.le_of_ble_eq_true rfl)
  rw [lg_entry_eq]
  generalize (lg_sl ([.ref h, .int x]) ++ List.replicate (3 - (lg_sl ([.ref h, .int x])).length) Slot.unset).toArray = ls at hl ⊢
  have hl : lv_has ls 3 [(0, .ref h), (1, .int x)] := hl
  refine lv_aload_n hx hb dL_charge_0 rfl (lv_at hl 0 rfl) ?_
  refine lv_iload_n hx hb dL_charge_1 rfl (lv_at hl 1 rfl) ?_
  have hP : va_P (dC, dI) clB (([] : va_W) ++ Wd) s.heap := hP
  have hD : va_D A (([] : va_W) ++ Wd) := hD
  have hFc := tk_freeG (ws := ([] : va_W)) (wc := Wd) hD hS hA
  refine va_callv (va_runV (As := [.int x]) (rest := []) ⟨hx, hb, hml, hown, hts⟩ (hM _) (cwV 1 hts (tw_V wi_451 wi_452 wi_453 wi_24 wi_454) rfl rfl rfl (by decide +kernel) ⟨by show fr + 1 ≤ 9; omega, by show 8 + (2 + 11) + lo ≤ 200; omega⟩) ⟨fun a U g mk q => ⟨q.1, q.2.1, tk_E.call q.2.2.1, q.2.2.2⟩, va_recv hK hP (ci := 3) (q0 := 0) rfl hW0, fun U hU hW => ⟨rfl, by rw [hU], tk_E.warm hW hE, by rw [hU]; exact tk_lastP (ws := ([] : va_W)) hP, (tk_lastD (ws := ([] : va_W)) hD).weaken (fun _ _ _ _ => trivial)⟩⟩ rfl rfl hl.1 rfl (lv_room (Nat.le_of_ble_eq_true rfl)) dL_charge_2 ⟨Nat.zero_le _, Nat.zero_le _⟩) hS (fun q _ h => hFc q h) hFc (fun u9 t H1 locs ht hvm hw hB hz1 hk1 hS => ?_)
  have hB1 : va_P (dC, dI) clB We H1 := by rw [← ht]; exact hB
  obtain ⟨hP, hD⟩ := tk_joinW (ws := ([] : va_W)) (wc := Wd) hP hD hk1 hFc hB1 hm
  generalize H1 = H at hP hS ⊢
  refine lv_goto (tgt := 11) hx hb dL_charge_5 (by decide) ?_
  refine lv_iconst (v := 0) hx hb dL_charge_11 (by decide) ?_
  exact W.iret (v := 0) hx hb hr (fun t ht hW => ⟨⟨0, (), rfl, rfl, by show va_P _ _ _ t.heap; rw [ht]; exact hP⟩, hS.F ht⟩) hS.2.2 dL_charge_12

set_option maxHeartbeats 4000000 in
theorem c_L_charge_IAE (l : Launch) (dC : Nat → ClassId) (dI : Nat → Nat → Nat) (ka : Nat → ClassId) (sa : Nat → Nat) (sz : Nat) (h : Nat) (x : Int32) (Wd We : va_W) (fs : List Value) (hW0 : Wd[0]? = some (h, .inr (3, fs))) (hm : Wd.map (fun q => q.1) = We.map (fun q => q.1)) (hO : oXv l dC dI ka yB_charge wB_charge (.ref h :: [.int x]) Wd We xIAE) : Met l yL_charge wL_charge ({ frames := 9, cells := 1, slots := 6, locals := 200 }) (va_Pc [.ref h, .int x] (fun U => U.heap.size = sz ∧ tk_E dC dI ka U ∧ tk_X sa U ∧ tk_Z (va_A Wd sz) U U.heap ∧ tk_N U ∧ va_P (dC, dI) clB Wd U.heap ∧ va_D (fun _ => True) Wd)) (va_Qi (fun (r' : Int32) (_ : Unit) => r' = 1) (fun _ t => va_P (dC, dI) clB (We) t.heap) (va_A Wd sz)) 1 6 (va_A Wd sz) := by
  obtain ⟨fr, lo, hfr, hlo, hM⟩ := hO
  refine va_MetW (cc := cL_charge) (maxL := 3) (ret := some .int) (hh := hL_charge) (by decide) rfl ?_
  intro p e s m args below meth c s₁ B hml hv
  obtain ⟨rfl, hsz, hE, hXx, hZz, hNn, hP, hD0⟩ := hv
  have hx := B.exec
  have hb := B.bytes
  have hr := B.returns
  have hts := atoms_spec (ws := wL_charge) B.pre
  have hq : ∀ w ∈ lwg, w.before _ s = true := fun w h => hts w (List.mem_cons_of_mem _ h)
  have hown : s.vm.findClass RL = some m.cls := findClass_of_methodNamed B.named
  have hlocks := B.notSynchronized
  have hK := hE.1
  have hN := hE.2
  subst hsz
  have hD := hD0.self (sz := s.heap.size)
  generalize hAe : va_A Wd s.heap.size = A at hD hZz ⊢
  have hA : ∀ q : Nat, s.heap.size ≤ q → A q := fun q h => by rw [← hAe]; exact Or.inr h
  have hS : va_S A s.heap s.heap [] := va_S.rf
  have hl := lv_entry ([.ref h, .int x]) (n := 3) (Nat.le_of_ble_eq_true rfl)
  rw [lg_entry_eq]
  generalize (lg_sl ([.ref h, .int x]) ++ List.replicate (3 - (lg_sl ([.ref h, .int x])).length) Slot.unset).toArray = ls at hl ⊢
  have hl : lv_has ls 3 [(0, .ref h), (1, .int x)] := hl
  refine lv_aload_n hx hb dL_charge_0 rfl (lv_at hl 0 rfl) ?_
  refine lv_iload_n hx hb dL_charge_1 rfl (lv_at hl 1 rfl) ?_
  have hP : va_P (dC, dI) clB (([] : va_W) ++ Wd) s.heap := hP
  have hD : va_D A (([] : va_W) ++ Wd) := hD
  have hFc := tk_freeG (ws := ([] : va_W)) (wc := Wd) hD hS hA
  have hTb := vx_table (x := yL_charge) B (hq _ wi_450)
  refine vx_callv (vx_runV (As := [.int x]) (rest := []) ⟨hx, hb, hml, hown, hts⟩ (hM sa _) (cwV 1 hts (tw_V wi_451 wi_452 wi_453 wi_24 wi_454) rfl rfl rfl (by decide +kernel) ⟨by show fr + 1 ≤ 9; omega, by show 8 + (2 + 11) + lo ≤ 200; omega⟩) ⟨fun a U g mk q => ⟨q.1, q.2.1, tk_E.call q.2.2.1, tk_X.call q.2.2.2.1, tk_Z.call q.2.2.2.2.1, q.2.2.2.2.2⟩, va_recv hK hP (ci := 3) (q0 := 0) rfl hW0, fun U hU hW => ⟨rfl, by rw [hU], tk_E.warm hW hE, tk_X.warm hW hXx, tk_Z.at hZz hS hU hW hFc, by rw [hU]; exact tk_lastP (ws := ([] : va_W)) hP, (tk_lastD (ws := ([] : va_W)) hD).weaken (fun _ _ _ _ => trivial)⟩⟩ rfl rfl hl.1 rfl (lv_room (Nat.le_of_ble_eq_true rfl)) dL_charge_2 ⟨Nat.le_refl _, Nat.le_refl _⟩) hS (fun q _ h => hFc q h) hFc (fun q _ h => hFc q h) (fun E9 ce q9 u t H1 locs ht hvm hpx hBX hz1 hk1 hS hce hcv hcl => ?_) (fun u t H1 locs ht hvm hw hB hz1 hk1 hS => hw.elim)
  obtain ⟨rfl, hB⟩ := hBX
  have hB1 : va_P (dC, dI) clB We H1 := by rw [← ht]; exact hB
  obtain ⟨hP, hD⟩ := tk_joinW (ws := ([] : va_W)) (wc := Wd) hP hD hk1 hFc hB1 hm
  refine vx_catch (pc := 2) (name := xIAE) hown [] ⟨0, 5, 8, 13⟩ [] (hTb.trans rfl) (fun z hz => by cases hz) (by decide) (by decide) (hq _ wi_215) (va_Nw.use rfl (hXx.1 _ (by decide +kernel))) hce hcv hcl ?_
  generalize H1 = H at hP hS ⊢
  refine lv_astore_n (lv' := [(2, .ref q9), (0, .ref h), (1, .int x)]) hx hb dL_charge_8 rfl hl (by decide) rfl (fun ls hl => ?_)
  refine lv_iconst (v := 1) hx hb dL_charge_9 (by decide) ?_
  exact W.iret (v := 1) hx hb hr (fun t ht hW => ⟨⟨1, (), rfl, rfl, by show va_P _ _ _ t.heap; rw [ht]; exact hP⟩, hS.F ht⟩) hS.2.2 dL_charge_10
