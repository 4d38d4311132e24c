set_option maxHeartbeats 4000000 in
set_option maxRecDepth 100000 in
theorem c_G_init (l : Launch) (dC : Nat → ClassId) (dI : Nat → Nat → Nat) (ka : Nat → ClassId) (sz : Nat) (h : Nat) : Met l yG_init wG_init ({ frames := 1, cells := 0, slots := 0, locals := 12 }) (va_Pc [.ref h] (fun U => U.heap.size = sz ∧ tk_E dC dI ka U ∧ va_P (dC, dI) clB [(h, .inr (2, [.int 0, .int 0]))] U.heap ∧ va_D (fun _ => True) [(h, .inr (2, [.int 0, .int 0]))])) (va_Qv (fun _ : Unit => True) (fun u t => va_P (dC, dI) clB [(h, .inr (2, [.int 0, .int 0]))] t.heap ∧ va_D (va_A [(h, .inr (2, [.int 0, .int 0]))] sz) [(h, .inr (2, [.int 0, .int 0]))]) (va_A [(h, .inr (2, [.int 0, .int 0]))] sz)) 0 0 (va_A [(h, .inr (2, [.int 0, .int 0]))] sz) := by
  refine Met.ofW (cc := cG_init) (maxL := 1) (ret := none) (by decide) rfl ?_
  intro p e s m args below meth c s₁ B hml hv
  obtain ⟨rfl, hsz, hE, hP, hD0⟩ := hv
  have hx := B.exec
  have hb := B.bytes
  have hr := B.returns
  have hts := atoms_spec (ws := wG_init) B.pre
  have hq : ∀ w ∈ lwg, w.before _ s = true := fun w h => hts w (List.mem_cons_of_mem _ h)
  have hown : s.vm.findClass RG = some m.cls := findClass_of_methodNamed B.named
  have hlocks := B.notSynchronized
  have hK := hE.1
  have hN := hE.2
  have hin : meth.name = "<init>" := (name_of_methodNamed B.named B.method).1
  subst hsz
  have hD := hD0.self (sz := s.heap.size)
  generalize hAe : va_A [(h, .inr (2, [.int 0, .int 0]))] s.heap.size = A at hD ⊢
  have hA : ∀ q : Nat, s.heap.size ≤ q → A q := fun q h => by rw [← hAe]; exact Or.inr h
  have hS : va_S A s.heap s.heap [] := va_S.rf
  have hP : va_P (dC, dI) clB [(h, .inr (2, [.int 0, .int 0]))] s.heap := hP
  have hl := lv_entry ([.ref h]) (n := 1) (Nat.le_of_ble_eq_true rfl)
  rw [lg_entry_eq]
  generalize (lg_sl ([.ref h]) ++ List.replicate (1 - (lg_sl ([.ref h])).length) Slot.unset).toArray = ls at hl ⊢
  have hl : lv_has ls 1 [(0, .ref h)] := hl
  refine lv_aload_n hx hb dG_init_0 rfl (lv_at hl 0 rfl) ?_
  refine W.objInit hx hb hown (hq _ wi_76) (hq _ wi_45) (hq _ wi_46) rfl (by rw [hml]; exact hl.1) rfl dG_init_1 (Nat.le_of_ble_eq_true rfl) (Nat.le_of_ble_eq_true rfl) ?_
  refine W.eq (g2 := F0 m 4 ls []) rfl ?_
  refine W.widen (k := 0) (n := 0) (Nat.le_of_ble_eq_true rfl) (Nat.le_of_ble_eq_true rfl) ?_
  exact W.vret hx hb hr (fun t ht hW => ⟨⟨(), rfl, trivial, by show va_P _ _ _ t.heap; rw [ht]; exact hP, hD⟩, hS.F ht⟩) hS.2.2 dG_init_4

set_option maxHeartbeats 4000000 in
set_option maxRecDepth 100000 in
theorem c_F_init (l : Launch) (dC : Nat → ClassId) (dI : Nat → Nat → Nat) (ka : Nat → ClassId) (sz : Nat) (h : Nat) : Met l yF_init wF_init ({ frames := 1, cells := 1, slots := 512, locals := 12 }) (va_Pc [.ref h] (fun U => U.heap.size = sz ∧ tk_E dC dI ka U ∧ va_P (dC, dI) clB [(h, .inr (1, [.null, .int 0, .int 0, .int 0, .int 0]))] U.heap ∧ va_D (fun _ => True) [(h, .inr (1, [.null, .int 0, .int 0, .int 0, .int 0]))])) (va_Qv (fun _ : Nat => True) (fun u t => va_P (dC, dI) clB [(h, .inr (1, [.ref u, .int (-1), .int 0, .int 0, .int 0])), (u, .inl (ka 0, 512, .inl (fun _ => 0)))] t.heap ∧ va_D (va_A [(h, .inr (1, [.null, .int 0, .int 0, .int 0, .int 0]))] sz) [(h, .inr (1, [.ref u, .int (-1), .int 0, .int 0, .int 0])), (u, .inl (ka 0, 512, .inl (fun _ => 0)))]) (va_A [(h, .inr (1, [.null, .int 0, .int 0, .int 0, .int 0]))] sz)) 1 512 (va_A [(h, .inr (1, [.null, .int 0, .int 0, .int 0, .int 0]))] sz) := by
  refine Met.ofW (cc := cF_init) (maxL := 1) (ret := none) (by decide) rfl ?_
  intro p e s m args below meth c s₁ B hml hv
  obtain ⟨rfl, hsz, hE, hP, hD0⟩ := hv
  have hx := B.exec
  have hb := B.bytes
  have hr := B.returns
  have hts := atoms_spec (ws := wF_init) B.pre
  have hq : ∀ w ∈ lwg, w.before _ s = true := fun w h => hts w (List.mem_cons_of_mem _ h)
  have hown : s.vm.findClass RF = some m.cls := findClass_of_methodNamed B.named
  have hlocks := B.notSynchronized
  have hK := hE.1
  have hN := hE.2
  have hin : meth.name = "<init>" := (name_of_methodNamed B.named B.method).1
  subst hsz
  have hD := hD0.self (sz := s.heap.size)
  generalize hAe : va_A [(h, .inr (1, [.null, .int 0, .int 0, .int 0, .int 0]))] s.heap.size = A at hD ⊢
  have hA : ∀ q : Nat, s.heap.size ≤ q → A q := fun q h => by rw [← hAe]; exact Or.inr h
  have hS : va_S A s.heap s.heap [] := va_S.rf
  have hP : va_P (dC, dI) clB [(h, .inr (1, [.null, .int 0, .int 0, .int 0, .int 0]))] s.heap := hP
  have hl := lv_entry ([.ref h]) (n := 1) (Nat.le_of_ble_eq_true rfl)
  rw [lg_entry_eq]
  generalize (lg_sl ([.ref h]) ++ List.replicate (1 - (lg_sl ([.ref h])).length) Slot.unset).toArray = ls at hl ⊢
  have hl : lv_has ls 1 [(0, .ref h)] := hl
  refine lv_aload_n hx hb dF_init_0 rfl (lv_at hl 0 rfl) ?_
  refine W.objInit hx hb hown (hq _ wi_92) (hq _ wi_45) (hq _ wi_46) rfl (by rw [hml]; exact hl.1) rfl dF_init_1 (Nat.le_of_ble_eq_true rfl) (Nat.le_of_ble_eq_true rfl) ?_
  refine W.eq (g2 := F0 m 4 ls []) rfl ?_
  refine lv_aload_n hx hb dF_init_4 rfl (lv_at hl 0 rfl) ?_
  refine lv_sipush (v := 512) hx hb dF_init_5 (by decide) ?_
  refine tk_newa (atype := .byte) (ty := .byte) (N' := 512) (a0 := (512, .inl (fun _ => 0))) hx hb (hq _ wi_70) rfl hK hP hD hS hA 0 rfl (fun _ => rfl) (by decide) (by decide +kernel) (Nat.le_of_ble_eq_true rfl) (Nat.le_of_ble_eq_true rfl) (Nat.le_of_ble_eq_true rfl) dF_init_8 (fun q8 H hP hD hS => ?_)
  have hP : va_P (dC, dI) clB [(h, .inr (1, [.null, .int 0, .int 0, .int 0, .int 0])), (q8, .inl (ka 0, 512, .inl (fun _ => 0)))] H := hP
  have hD : va_D A [(h, .inr (1, [.null, .int 0, .int 0, .int 0, .int 0])), (q8, .inl (ka 0, 512, .inl (fun _ => 0)))] := hD
  refine va_putF (D := (dC, dI)) (ci := 1) (v := .ref q8) (ty := (.array .byte)) (C := RF) (T := TF) (N := 5) hx hb hts (inC inF) tyF tyF_ok nmF hown hK hP hD hS 0 rfl rfl 0 (by decide) (hq _ wi_93) (fun _ h9 => h9) rfl hin rfl (by decide +kernel) rfl rfl (Nat.le_of_ble_eq_true rfl) dF_init_10 (fun H locs hP hD hS => ?_)
  have hP : va_P (dC, dI) clB [(h, .inr (1, [.ref q8, .int 0, .int 0, .int 0, .int 0])), (q8, .inl (ka 0, 512, .inl (fun _ => 0)))] H := hP
  have hD : va_D A [(h, .inr (1, [.ref q8, .int 0, .int 0, .int 0, .int 0])), (q8, .inl (ka 0, 512, .inl (fun _ => 0)))] := hD
  refine lv_aload_n hx hb dF_init_13 rfl (lv_at hl 0 rfl) ?_
  refine lv_iconst (v := (-1)) hx hb dF_init_14 (by decide) ?_
  refine va_put (D := (dC, dI)) (ci := 1) (v := .int (-1)) (ty := .int) (C := RF) (T := TF) (N := 5) hx hb hts (inC inF) tyF tyF_ok nmF hown hK hP hD hS 0 rfl rfl 1 (by decide) (hq _ wi_95) (fun _ h9 => h9) rfl (by decide +kernel) rfl rfl (Nat.le_of_ble_eq_true rfl) dF_init_15 (fun H locs hP hD hS => ?_)
  have hP : va_P (dC, dI) clB [(h, .inr (1, [.ref q8, .int (-1), .int 0, .int 0, .int 0])), (q8, .inl (ka 0, 512, .inl (fun _ => 0)))] H := hP
  have hD : va_D A [(h, .inr (1, [.ref q8, .int (-1), .int 0, .int 0, .int 0])), (q8, .inl (ka 0, 512, .inl (fun _ => 0)))] := hD
  refine W.widen (k := 1) (n := 512) (Nat.le_of_ble_eq_true rfl) (Nat.le_of_ble_eq_true rfl) ?_
  exact W.vret hx hb hr (fun t ht hW => ⟨⟨q8, rfl, trivial, by show va_P _ _ _ t.heap; rw [ht]; exact hP, hD⟩, hS.F ht⟩) hS.2.2 dF_init_18

set_option maxHeartbeats 4000000 in
set_option maxRecDepth 100000 in
theorem c_D_init (l : Launch) (dC : Nat → ClassId) (dI : Nat → Nat → Nat) (ka : Nat → ClassId) (sz : Nat) (h : Nat) : Met l yD_init wD_init ({ frames := 1, cells := 1, slots := 98304, locals := 12 }) (va_Pc [.ref h] (fun U => U.heap.size = sz ∧ tk_E dC dI ka U ∧ va_P (dC, dI) clB [(h, .inr (0, [.null, .int 0, .int 0, .int 0]))] U.heap ∧ va_D (fun _ => True) [(h, .inr (0, [.null, .int 0, .int 0, .int 0]))])) (va_Qv (fun _ : Nat => True) (fun u t => va_P (dC, dI) clB [(h, .inr (0, [.ref u, .int (-1), .int 0, .int 0])), (u, .inl (ka 0, 98304, .inl (fun _ => 0)))] t.heap ∧ va_D (va_A [(h, .inr (0, [.null, .int 0, .int 0, .int 0]))] sz) [(h, .inr (0, [.ref u, .int (-1), .int 0, .int 0])), (u, .inl (ka 0, 98304, .inl (fun _ => 0)))]) (va_A [(h, .inr (0, [.null, .int 0, .int 0, .int 0]))] sz)) 1 98304 (va_A [(h, .inr (0, [.null, .int 0, .int 0, .int 0]))] sz) := by
  refine Met.ofW (cc := cD_init) (maxL := 1) (ret := none) (by decide) rfl ?_
  intro p e s m args below meth c s₁ B hml hv
  obtain ⟨rfl, hsz, hE, hP, hD0⟩ := hv
  have hx := B.exec
  have hb := B.bytes
  have hr := B.returns
  have hts := atoms_spec (ws := wD_init) B.pre
  have hq : ∀ w ∈ lwg, w.before _ s = true := fun w h => hts w (List.mem_cons_of_mem _ h)
  have hown : s.vm.findClass RD = some m.cls := findClass_of_methodNamed B.named
  have hlocks := B.notSynchronized
  have hK := hE.1
  have hN := hE.2
  have hin : meth.name = "<init>" := (name_of_methodNamed B.named B.method).1
  subst hsz
  have hD := hD0.self (sz := s.heap.size)
  generalize hAe : va_A [(h, .inr (0, [.null, .int 0, .int 0, .int 0]))] s.heap.size = A at hD ⊢
  have hA : ∀ q : Nat, s.heap.size ≤ q → A q := fun q h => by rw [← hAe]; exact Or.inr h
  have hS : va_S A s.heap s.heap [] := va_S.rf
  have hP : va_P (dC, dI) clB [(h, .inr (0, [.null, .int 0, .int 0, .int 0]))] s.heap := hP
  have hl := lv_entry ([.ref h]) (n := 1) (Nat.le_of_ble_eq_true rfl)
  rw [lg_entry_eq]
  generalize (lg_sl ([.ref h]) ++ List.replicate (1 - (lg_sl ([.ref h])).length) Slot.unset).toArray = ls at hl ⊢
  have hl : lv_has ls 1 [(0, .ref h)] := hl
  refine lv_aload_n hx hb dD_init_0 rfl (lv_at hl 0 rfl) ?_
  refine W.objInit hx hb hown (hq _ wi_52) (hq _ wi_45) (hq _ wi_46) rfl (by rw [hml]; exact hl.1) rfl dD_init_1 (Nat.le_of_ble_eq_true rfl) (Nat.le_of_ble_eq_true rfl) ?_
  refine W.eq (g2 := F0 m 4 ls []) rfl ?_
  refine lv_aload_n hx hb dD_init_4 rfl (lv_at hl 0 rfl) ?_
  refine lv_ldc (v := 98304) hx hb hown (hq _ wi_53) dD_init_5 ?_
  refine tk_newa (atype := .byte) (ty := .byte) (N' := 98304) (a0 := (98304, .inl (fun _ => 0))) hx hb (hq _ wi_70) rfl hK hP hD hS hA 0 rfl (fun _ => rfl) (by decide) (by decide +kernel) (Nat.le_of_ble_eq_true rfl) (Nat.le_of_ble_eq_true rfl) (Nat.le_of_ble_eq_true rfl) dD_init_7 (fun q7 H hP hD hS => ?_)
  have hP : va_P (dC, dI) clB [(h, .inr (0, [.null, .int 0, .int 0, .int 0])), (q7, .inl (ka 0, 98304, .inl (fun _ => 0)))] H := hP
  have hD : va_D A [(h, .inr (0, [.null, .int 0, .int 0, .int 0])), (q7, .inl (ka 0, 98304, .inl (fun _ => 0)))] := hD
  refine va_putF (D := (dC, dI)) (ci := 0) (v := .ref q7) (ty := (.array .byte)) (C := RD) (T := TD) (N := 4) hx hb hts (inC inD) tyD tyD_ok nmD hown hK hP hD hS 0 rfl rfl 0 (by decide) (hq _ wi_54) (fun _ h9 => h9) rfl hin rfl (by decide +kernel) rfl rfl (Nat.le_of_ble_eq_true rfl) dD_init_9 (fun H locs hP hD hS => ?_)
  have hP : va_P (dC, dI) clB [(h, .inr (0, [.ref q7, .int 0, .int 0, .int 0])), (q7, .inl (ka 0, 98304, .inl (fun _ => 0)))] H := hP
  have hD : va_D A [(h, .inr (0, [.ref q7, .int 0, .int 0, .int 0])), (q7, .inl (ka 0, 98304, .inl (fun _ => 0)))] := hD
  refine lv_aload_n hx hb dD_init_12 rfl (lv_at hl 0 rfl) ?_
  refine lv_iconst (v := (-1)) hx hb dD_init_13 (by decide) ?_
  refine va_put (D := (dC, dI)) (ci := 0) (v := .int (-1)) (ty := .int) (C := RD) (T := TD) (N := 4) hx hb hts (inC inD) tyD tyD_ok nmD hown hK hP hD hS 0 rfl rfl 1 (by decide) (hq _ wi_55) (fun _ h9 => h9) rfl (by decide +kernel) rfl rfl (Nat.le_of_ble_eq_true rfl) dD_init_14 (fun H locs hP hD hS => ?_)
  have hP : va_P (dC, dI) clB [(h, .inr (0, [.ref q7, .int (-1), .int 0, .int 0])), (q7, .inl (ka 0, 98304, .inl (fun _ => 0)))] H := hP
  have hD : va_D A [(h, .inr (0, [.ref q7, .int (-1), .int 0, .int 0])), (q7, .inl (ka 0, 98304, .inl (fun _ => 0)))] := hD
  refine W.widen (k := 1) (n := 98304) (Nat.le_of_ble_eq_true rfl) (Nat.le_of_ble_eq_true rfl) ?_
  exact W.vret hx hb hr (fun t ht hW => ⟨⟨q7, rfl, trivial, by show va_P _ _ _ t.heap; rw [ht]; exact hP, hD⟩, hS.F ht⟩) hS.2.2 dD_init_17
