set_option maxHeartbeats 4000000 in
set_option maxRecDepth 100000 in
theorem c_D_readPage (l : Launch) (dC : Nat → ClassId) (dI : Nat → Nat → Nat) (ka : Nat → ClassId) (sz : Nat) (a b tb : Nat) (lf wn rd : Int32) (f g : Nat → Int32) (x : Int32) (n : Nat) (ex : x = nI n) (hn : n < 192) (hF : sb_Fit f) : Met l yD_readPage wD_readPage ({ frames := 1, cells := 0, slots := 0, locals := 60 }) (va_Pc [.ref a, .int x, .ref tb] (fun U => U.heap.size = sz ∧ tk_E dC dI ka U ∧ va_P (dC, dI) clB [(a, .inr (0, [.ref b, .int lf, .int wn, .int rd])), (b, .inl (ka 0, 98304, .inl f)), (tb, .inl (ka 0, 512, .inl g))] U.heap ∧ va_D (fun _ => True) [(a, .inr (0, [.ref b, .int lf, .int wn, .int rd])), (b, .inl (ka 0, 98304, .inl f)), (tb, .inl (ka 0, 512, .inl g))])) (va_Qv (fun _ : Unit => True) (fun _ t => va_P (dC, dI) clB [(a, .inr (0, [.ref b, .int lf, .int wn, .int (rd + 1)])), (b, .inl (ka 0, 98304, .inl f)), (tb, .inl (ka 0, 512, .inl (va_cpy f g (n * 512) 0 512)))] t.heap) (va_A [(a, .inr (0, [.ref b, .int lf, .int wn, .int rd])), (b, .inl (ka 0, 98304, .inl f)), (tb, .inl (ka 0, 512, .inl g))] sz)) 0 0 (va_A [(a, .inr (0, [.ref b, .int lf, .int wn, .int rd])), (b, .inl (ka 0, 98304, .inl f)), (tb, .inl (ka 0, 512, .inl g))] sz) := by
  refine Met.ofW (cc := cD_readPage) (maxL := 3) (ret := none) (by decide) rfl ?_
  intro p e s m args below meth c s₁ B hml hv
  obtain ⟨rfl, hsz, hE, hP, hD0⟩ := hv
  have hx := B.exec
  have hb := B.bytes
  have hr := B.returns
  have hts := atoms_spec (ws := wD_readPage) B.pre
  have hq : ∀ w ∈ lwg, w.before _ s = true := fun w h => hts w (List.mem_cons_of_mem _ h)
  have hown : s.vm.findClass RD = some m.cls := findClass_of_methodNamed B.named
  have hlocks := B.notSynchronized
  have hK := hE.1
  have hN := hE.2
  subst hsz
  have hD := hD0.self (sz := s.heap.size)
  generalize hAe : va_A [(a, .inr (0, [.ref b, .int lf, .int wn, .int rd])), (b, .inl (ka 0, 98304, .inl f)), (tb, .inl (ka 0, 512, .inl g))] s.heap.size = A at hD ⊢
  have hA : ∀ q : Nat, s.heap.size ≤ q → A q := fun q h => by rw [← hAe]; exact Or.inr h
  have hS : va_S A s.heap s.heap [] := va_S.rf
  have hP : va_P (dC, dI) clB [(a, .inr (0, [.ref b, .int lf, .int wn, .int rd])), (b, .inl (ka 0, 98304, .inl f)), (tb, .inl (ka 0, 512, .inl g))] s.heap := hP
  have hl := lv_entry ([.ref a, .int x, .ref tb]) (n := 3) (Nat.le_of_ble_eq_true rfl)
  rw [lg_entry_eq]
  generalize (lg_sl ([.ref a, .int x, .ref tb]) ++ List.replicate (3 - (lg_sl ([.ref a, .int x, .ref tb])).length) Slot.unset).toArray = ls at hl ⊢
  have hl : lv_has ls 3 [(0, .ref a), (1, .int x), (2, .ref tb)] := hl
  refine lv_aload_n hx hb dD_readPage_0 rfl (lv_at hl 0 rfl) ?_
  refine va_get (D := (dC, dI)) (ci := 0) (v := .ref b) (C := RD) (T := TD) (N := 4) hx hb hts (inC inD) hown hK hP 0 rfl rfl 0 (by decide) (hq _ wi_54) (fun _ h9 => h9) rfl dD_readPage_1 ?_
  refine lv_iload_n hx hb dD_readPage_4 rfl (lv_at hl 1 rfl) ?_
  refine lv_sipush (v := 512) hx hb dD_readPage_5 (by decide) ?_
  refine lv_imul hx hb dD_readPage_8 ?_
  refine lv_aload_n hx hb dD_readPage_9 rfl (lv_at hl 2 rfl) ?_
  refine lv_iconst (v := 0) hx hb dD_readPage_10 (by decide) ?_
  refine lv_sipush (v := 512) hx hb dD_readPage_11 (by decide) ?_
  refine tk_copy (sn := n * 512) (dn := 0) (nn := 512) hx hb (hml.trans hl.1.symm) hown (hq _ wi_378) (hq _ wi_380) (hq _ wi_379) (hq _ wi_36) hK hP hD hS 1 2 0 0 rfl rfl rfl rfl (by rw [ex]; exact pk_mul n 512) rfl rfl (by omega) (by decide) hF (by decide) (Nat.le_of_ble_eq_true rfl) (Nat.le_of_ble_eq_true rfl) dD_readPage_14 (fun H locs hP hD hS => ?_)
  have hP : va_P (dC, dI) clB [(a, .inr (0, [.ref b, .int lf, .int wn, .int rd])), (b, .inl (ka 0, 98304, .inl f)), (tb, .inl (ka 0, 512, .inl (va_cpy f g (n * 512) 0 512)))] H := hP
  have hD : va_D A [(a, .inr (0, [.ref b, .int lf, .int wn, .int rd])), (b, .inl (ka 0, 98304, .inl f)), (tb, .inl (ka 0, 512, .inl (va_cpy f g (n * 512) 0 512)))] := hD
  refine lv_aload_n hx hb dD_readPage_17 rfl (lv_at hl 0 rfl) ?_
  refine lv_dup hx hb dD_readPage_18 rfl ?_
  refine va_get (D := (dC, dI)) (ci := 0) (v := .int rd) (C := RD) (T := TD) (N := 4) hx hb hts (inC inD) hown hK hP 0 rfl rfl 3 (by decide) (hq _ wi_59) (fun _ h9 => h9) rfl dD_readPage_19 ?_
  refine lv_iconst (v := 1) hx hb dD_readPage_22 (by decide) ?_
  refine lv_iadd hx hb dD_readPage_23 ?_
  refine va_put (D := (dC, dI)) (ci := 0) (v := .int (rd + 1)) (ty := .int) (C := RD) (T := TD) (N := 4) hx hb hts (inC inD) tyD tyD_ok nmD hown hK hP hD hS 0 rfl rfl 3 (by decide) (hq _ wi_59) (fun _ h9 => h9) rfl (by decide +kernel) rfl rfl (Nat.le_of_ble_eq_true rfl) dD_readPage_24 (fun H locs hP hD hS => ?_)
  have hP : va_P (dC, dI) clB [(a, .inr (0, [.ref b, .int lf, .int wn, .int (rd + 1)])), (b, .inl (ka 0, 98304, .inl f)), (tb, .inl (ka 0, 512, .inl (va_cpy f g (n * 512) 0 512)))] H := hP
  have hD : va_D A [(a, .inr (0, [.ref b, .int lf, .int wn, .int (rd + 1)])), (b, .inl (ka 0, 98304, .inl f)), (tb, .inl (ka 0, 512, .inl (va_cpy f g (n * 512) 0 512)))] := hD
  exact W.vret hx hb hr (fun t ht hW => ⟨⟨(), rfl, trivial, by show va_P _ _ _ t.heap; rw [ht]; exact hP⟩, hS.F ht⟩) hS.2.2 dD_readPage_27

set_option maxHeartbeats 4000000 in
set_option maxRecDepth 100000 in
theorem c_D_writeSector (l : Launch) (dC : Nat → ClassId) (dI : Nat → Nat → Nat) (ka : Nat → ClassId) (sz : Nat) (a b tb : Nat) (lf wn rd : Int32) (f g : Nat → Int32) (x y : Int32) (n k : Nat) (ex : x = nI n) (hn : n < 192) (ey : y = nI k) (hk : k < 8) (hG : sb_Fit g) : Met l yD_writeSector wD_writeSector ({ frames := 1, cells := 0, slots := 0, locals := 60 }) (va_Pc [.ref a, .int x, .int y, .ref tb] (fun U => U.heap.size = sz ∧ tk_E dC dI ka U ∧ va_P (dC, dI) clB [(a, .inr (0, [.ref b, .int lf, .int wn, .int rd])), (b, .inl (ka 0, 98304, .inl f)), (tb, .inl (ka 0, 512, .inl g))] U.heap ∧ va_D (fun _ => True) [(a, .inr (0, [.ref b, .int lf, .int wn, .int rd])), (b, .inl (ka 0, 98304, .inl f)), (tb, .inl (ka 0, 512, .inl g))])) (va_Qi (fun (r : Int32) (_ : Unit) => r = if lf = 0 then 0 else 1) (fun _ t => va_P (dC, dI) clB [(a, .inr (0, [.ref b, .int (if lf = 0 then lf else if lf = -1 then lf else lf - 1), .int (if lf = 0 then wn else wn + 1), .int rd])), (b, .inl (ka 0, 98304, .inl (if lf = 0 then f else va_cpy g f (k * 64) (n * 512 + k * 64) 64))), (tb, .inl (ka 0, 512, .inl g))] t.heap) (va_A [(a, .inr (0, [.ref b, .int lf, .int wn, .int rd])), (b, .inl (ka 0, 98304, .inl f)), (tb, .inl (ka 0, 512, .inl g))] sz)) 0 0 (va_A [(a, .inr (0, [.ref b, .int lf, .int wn, .int rd])), (b, .inl (ka 0, 98304, .inl f)), (tb, .inl (ka 0, 512, .inl g))] sz) := by
  refine Met.ofW (cc := cD_writeSector) (maxL := 5) (ret := (some .boolean)) (by decide) rfl ?_
  intro p e s m args below meth c s₁ B hml hv
  obtain ⟨rfl, hsz, hE, hP, hD0⟩ := hv
  have hx := B.exec
  have hb := B.bytes
  have hr := B.returns
  have hts := atoms_spec (ws := wD_writeSector) B.pre
  have hq : ∀ w ∈ lwg, w.before _ s = true := fun w h => hts w (List.mem_cons_of_mem _ h)
  have hown : s.vm.findClass RD = some m.cls := findClass_of_methodNamed B.named
  have hlocks := B.notSynchronized
  have hK := hE.1
  have hN := hE.2
  subst hsz
  have hD := hD0.self (sz := s.heap.size)
  generalize hAe : va_A [(a, .inr (0, [.ref b, .int lf, .int wn, .int rd])), (b, .inl (ka 0, 98304, .inl f)), (tb, .inl (ka 0, 512, .inl g))] s.heap.size = A at hD ⊢
  have hA : ∀ q : Nat, s.heap.size ≤ q → A q := fun q h => by rw [← hAe]; exact Or.inr h
  have hS : va_S A s.heap s.heap [] := va_S.rf
  have hP : va_P (dC, dI) clB [(a, .inr (0, [.ref b, .int lf, .int wn, .int rd])), (b, .inl (ka 0, 98304, .inl f)), (tb, .inl (ka 0, 512, .inl g))] s.heap := hP
  have hl := lv_entry ([.ref a, .int x, .int y, .ref tb]) (n := 5) (Nat.le_of_ble_eq_true rfl)
  rw [lg_entry_eq]
  generalize (lg_sl ([.ref a, .int x, .int y, .ref tb]) ++ List.replicate (5 - (lg_sl ([.ref a, .int x, .int y, .ref tb])).length) Slot.unset).toArray = ls at hl ⊢
  have hl : lv_has ls 5 [(0, .ref a), (1, .int x), (2, .int y), (3, .ref tb)] := hl
  refine lv_aload_n hx hb dD_writeSector_0 rfl (lv_at hl 0 rfl) ?_
  refine va_get (D := (dC, dI)) (ci := 0) (v := .int lf) (C := RD) (T := TD) (N := 4) hx hb hts (inC inD) hown hK hP 0 rfl rfl 1 (by decide) (hq _ wi_55) (fun _ h9 => h9) rfl dD_writeSector_1 ?_
  refine lv_if_ne (tgt := 9) hx hb dD_writeSector_4 (by decide) (fun c_1 => ?_) (fun c_1 => ?_)
  · refine lv_aload_n hx hb dD_writeSector_9 rfl (lv_at hl 0 rfl) ?_
    refine va_get (D := (dC, dI)) (ci := 0) (v := .int lf) (C := RD) (T := TD) (N := 4) hx hb hts (inC inD) hown hK hP 0 rfl rfl 1 (by decide) (hq _ wi_55) (fun _ h9 => h9) rfl dD_writeSector_10 ?_
    refine lv_iconst (v := (-1)) hx hb dD_writeSector_13 (by decide) ?_
    refine lv_icmp_eq (tgt := 27) hx hb dD_writeSector_14 (by decide) (fun c_2 => ?_) (fun c_2 => ?_)
    · refine lv_iload_n hx hb dD_writeSector_27 rfl (lv_at hl 2 rfl) ?_
      refine lv_bipush (v := 64) hx hb dD_writeSector_28 (by decide) ?_
      refine lv_imul hx hb dD_writeSector_30 ?_
      refine lv_istore (lv' := [(4, .int (y * 64)), (0, .ref a), (1, .int x), (2, .int y), (3, .ref tb)]) hx hb dD_writeSector_31 hl (by decide) rfl (fun ls hl => ?_)
      refine lv_aload_n hx hb dD_writeSector_33 rfl (lv_at hl 4 rfl) ?_
      refine lv_iload hx hb dD_writeSector_34 (lv_at hl 0 rfl) ?_
      refine lv_aload_n hx hb dD_writeSector_36 rfl (lv_at hl 1 rfl) ?_
      refine va_get (D := (dC, dI)) (ci := 0) (v := .ref b) (C := RD) (T := TD) (N := 4) hx hb hts (inC inD) hown hK hP 0 rfl rfl 0 (by decide) (hq _ wi_54) (fun _ h9 => h9) rfl dD_writeSector_37 ?_
      refine lv_iload_n hx hb dD_writeSector_40 rfl (lv_at hl 2 rfl) ?_
      refine lv_sipush (v := 512) hx hb dD_writeSector_41 (by decide) ?_
      refine lv_imul hx hb dD_writeSector_44 ?_
      refine lv_iload hx hb dD_writeSector_45 (lv_at hl 0 rfl) ?_
      refine lv_iadd hx hb dD_writeSector_47 ?_
      refine lv_bipush (v := 64) hx hb dD_writeSector_48 (by decide) ?_
      refine tk_copy (sn := k * 64) (dn := n * 512 + k * 64) (nn := 64) hx hb (hml.trans hl.1.symm) hown (hq _ wi_378) (hq _ wi_380) (hq _ wi_379) (hq _ wi_36) hK hP hD hS 2 1 0 0 rfl rfl rfl rfl (by rw [ey]; exact pk_mul k 64) (by rw [ex, ey]; show nI n * nI 512 + nI k * nI 64 = _; rw [pk_mul, pk_mul, nI_add]) rfl (by omega) (by omega) hG (by decide) (Nat.le_of_ble_eq_true rfl) (Nat.le_of_ble_eq_true rfl) dD_writeSector_50 (fun H locs hP hD hS => ?_)
      have hP : va_P (dC, dI) clB [(a, .inr (0, [.ref b, .int lf, .int wn, .int rd])), (b, .inl (ka 0, 98304, .inl (va_cpy g f (k * 64) (n * 512 + k * 64) 64))), (tb, .inl (ka 0, 512, .inl g))] H := hP
      have hD : va_D A [(a, .inr (0, [.ref b, .int lf, .int wn, .int rd])), (b, .inl (ka 0, 98304, .inl (va_cpy g f (k * 64) (n * 512 + k * 64) 64))), (tb, .inl (ka 0, 512, .inl g))] := hD
      refine lv_aload_n hx hb dD_writeSector_53 rfl (lv_at hl 1 rfl) ?_
      refine lv_dup hx hb dD_writeSector_54 rfl ?_
      refine va_get (D := (dC, dI)) (ci := 0) (v := .int wn) (C := RD) (T := TD) (N := 4) hx hb hts (inC inD) hown hK hP 0 rfl rfl 2 (by decide) (hq _ wi_57) (fun _ h9 => h9) rfl dD_writeSector_55 ?_
      refine lv_iconst (v := 1) hx hb dD_writeSector_58 (by decide) ?_
      refine lv_iadd hx hb dD_writeSector_59 ?_
      refine va_put (D := (dC, dI)) (ci := 0) (v := .int (wn + 1)) (ty := .int) (C := RD) (T := TD) (N := 4) hx hb hts (inC inD) tyD tyD_ok nmD hown hK hP hD hS 0 rfl rfl 2 (by decide) (hq _ wi_57) (fun _ h9 => h9) rfl (by decide +kernel) rfl rfl (Nat.le_of_ble_eq_true rfl) dD_writeSector_60 (fun H locs hP hD hS => ?_)
      have hP : va_P (dC, dI) clB [(a, .inr (0, [.ref b, .int lf, .int (wn + 1), .int rd])), (b, .inl (ka 0, 98304, .inl (va_cpy g f (k * 64) (n * 512 + k * 64) 64))), (tb, .inl (ka 0, 512, .inl g))] H := hP
      have hD : va_D A [(a, .inr (0, [.ref b, .int lf, .int (wn + 1), .int rd])), (b, .inl (ka 0, 98304, .inl (va_cpy g f (k * 64) (n * 512 + k * 64) 64))), (tb, .inl (ka 0, 512, .inl g))] := hD
      refine lv_iconst (v := 1) hx hb dD_writeSector_63 (by decide) ?_
      exact W.zret (v := 1) (ty := .boolean) hx hb hr rfl (fun t ht hW => ⟨⟨1, (), rfl, (by simp [c_1, c_2]), by show va_P _ _ _ t.heap; rw [ht]; exact (by simpa [c_1, c_2] using hP)⟩, hS.F ht⟩) hS.2.2 dD_writeSector_64
    · refine lv_aload_n hx hb dD_writeSector_17 rfl (lv_at hl 0 rfl) ?_
      refine lv_dup hx hb dD_writeSector_18 rfl ?_
      refine va_get (D := (dC, dI)) (ci := 0) (v := .int lf) (C := RD) (T := TD) (N := 4) hx hb hts (inC inD) hown hK hP 0 rfl rfl 1 (by decide) (hq _ wi_55) (fun _ h9 => h9) rfl dD_writeSector_19 ?_
      refine lv_iconst (v := 1) hx hb dD_writeSector_22 (by decide) ?_
      refine lv_isub hx hb dD_writeSector_23 ?_
      refine va_put (D := (dC, dI)) (ci := 0) (v := .int (lf - 1)) (ty := .int) (C := RD) (T := TD) (N := 4) hx hb hts (inC inD) tyD tyD_ok nmD hown hK hP hD hS 0 rfl rfl 1 (by decide) (hq _ wi_55) (fun _ h9 => h9) rfl (by decide +kernel) rfl rfl (Nat.le_of_ble_eq_true rfl) dD_writeSector_24 (fun H locs hP hD hS => ?_)
      have hP : va_P (dC, dI) clB [(a, .inr (0, [.ref b, .int (lf - 1), .int wn, .int rd])), (b, .inl (ka 0, 98304, .inl f)), (tb, .inl (ka 0, 512, .inl g))] H := hP
      have hD : va_D A [(a, .inr (0, [.ref b, .int (lf - 1), .int wn, .int rd])), (b, .inl (ka 0, 98304, .inl f)), (tb, .inl (ka 0, 512, .inl g))] := hD
      refine lv_iload_n hx hb dD_writeSector_27 rfl (lv_at hl 2 rfl) ?_
      refine lv_bipush (v := 64) hx hb dD_writeSector_28 (by decide) ?_
      refine lv_imul hx hb dD_writeSector_30 ?_
      refine lv_istore (lv' := [(4, .int (y * 64)), (0, .ref a), (1, .int x), (2, .int y), (3, .ref tb)]) hx hb dD_writeSector_31 hl (by decide) rfl (fun ls hl => ?_)
      refine lv_aload_n hx hb dD_writeSector_33 rfl (lv_at hl 4 rfl) ?_
      refine lv_iload hx hb dD_writeSector_34 (lv_at hl 0 rfl) ?_
      refine lv_aload_n hx hb dD_writeSector_36 rfl (lv_at hl 1 rfl) ?_
      refine va_get (D := (dC, dI)) (ci := 0) (v := .ref b) (C := RD) (T := TD) (N := 4) hx hb hts (inC inD) hown hK hP 0 rfl rfl 0 (by decide) (hq _ wi_54) (fun _ h9 => h9) rfl dD_writeSector_37 ?_
      refine lv_iload_n hx hb dD_writeSector_40 rfl (lv_at hl 2 rfl) ?_
      refine lv_sipush (v := 512) hx hb dD_writeSector_41 (by decide) ?_
      refine lv_imul hx hb dD_writeSector_44 ?_
      refine lv_iload hx hb dD_writeSector_45 (lv_at hl 0 rfl) ?_
      refine lv_iadd hx hb dD_writeSector_47 ?_
      refine lv_bipush (v := 64) hx hb dD_writeSector_48 (by decide) ?_
      refine tk_copy (sn := k * 64) (dn := n * 512 + k * 64) (nn := 64) hx hb (hml.trans hl.1.symm) hown (hq _ wi_378) (hq _ wi_380) (hq _ wi_379) (hq _ wi_36) hK hP hD hS 2 1 0 0 rfl rfl rfl rfl (by rw [ey]; exact pk_mul k 64) (by rw [ex, ey]; show nI n * nI 512 + nI k * nI 64 = _; rw [pk_mul, pk_mul, nI_add]) rfl (by omega) (by omega) hG (by decide) (Nat.le_of_ble_eq_true rfl) (Nat.le_of_ble_eq_true rfl) dD_writeSector_50 (fun H locs hP hD hS => ?_)
      have hP : va_P (dC, dI) clB [(a, .inr (0, [.ref b, .int (lf - 1), .int wn, .int rd])), (b, .inl (ka 0, 98304, .inl (va_cpy g f (k * 64) (n * 512 + k * 64) 64))), (tb, .inl (ka 0, 512, .inl g))] H := hP
      have hD : va_D A [(a, .inr (0, [.ref b, .int (lf - 1), .int wn, .int rd])), (b, .inl (ka 0, 98304, .inl (va_cpy g f (k * 64) (n * 512 + k * 64) 64))), (tb, .inl (ka 0, 512, .inl g))] := hD
      refine lv_aload_n hx hb dD_writeSector_53 rfl (lv_at hl 1 rfl) ?_
      refine lv_dup hx hb dD_writeSector_54 rfl ?_
      refine va_get (D := (dC, dI)) (ci := 0) (v := .int wn) (C := RD) (T := TD) (N := 4) hx hb hts (inC inD) hown hK hP 0 rfl rfl 2 (by decide) (hq _ wi_57) (fun _ h9 => h9) rfl dD_writeSector_55 ?_
      refine lv_iconst (v := 1) hx hb dD_writeSector_58 (by decide) ?_
      refine lv_iadd hx hb dD_writeSector_59 ?_
      refine va_put (D := (dC, dI)) (ci := 0) (v := .int (wn + 1)) (ty := .int) (C := RD) (T := TD) (N := 4) hx hb hts (inC inD) tyD tyD_ok nmD hown hK hP hD hS 0 rfl rfl 2 (by decide) (hq _ wi_57) (fun _ h9 => h9) rfl (by decide +kernel) rfl rfl (Nat.le_of_ble_eq_true rfl) dD_writeSector_60 (fun H locs hP hD hS => ?_)
      have hP : va_P (dC, dI) clB [(a, .inr (0, [.ref b, .int (lf - 1), .int (wn + 1), .int rd])), (b, .inl (ka 0, 98304, .inl (va_cpy g f (k * 64) (n * 512 + k * 64) 64))), (tb, .inl (ka 0, 512, .inl g))] H := hP
      have hD : va_D A [(a, .inr (0, [.ref b, .int (lf - 1), .int (wn + 1), .int rd])), (b, .inl (ka 0, 98304, .inl (va_cpy g f (k * 64) (n * 512 + k * 64) 64))), (tb, .inl (ka 0, 512, .inl g))] := hD
      refine lv_iconst (v := 1) hx hb dD_writeSector_63 (by decide) ?_
      exact W.zret (v := 1) (ty := .boolean) hx hb hr rfl (fun t ht hW => ⟨⟨1, (), rfl, (by simp [c_1, c_2]), by show va_P _ _ _ t.heap; rw [ht]; exact (by simpa [c_1, c_2] using hP)⟩, hS.F ht⟩) hS.2.2 dD_writeSector_64
  · refine lv_iconst (v := 0) hx hb dD_writeSector_7 (by decide) ?_
    exact W.zret (v := 0) (ty := .boolean) hx hb hr rfl (fun t ht hW => ⟨⟨0, (), rfl, (by simp [c_1]), by show va_P _ _ _ t.heap; rw [ht]; exact (by simpa [c_1] using hP)⟩, hS.F ht⟩) hS.2.2 dD_writeSector_8

set_option maxHeartbeats 4000000 in
set_option maxRecDepth 100000 in
theorem c_JA_fill (l : Launch) (dC : Nat → ClassId) (dI : Nat → Nat → Nat) (ka : Nat → ClassId) (sz : Nat) (b N : Nat) (f : Nat → Int32) (v : Int32) (hv : v.toInt8.toInt32 = v) (hM : N < 2 ^ 31) : Met l yJA_fill wJA_fill ({ frames := 0, cells := 0, slots := 0, locals := 0 }) (va_Pc [.ref b, .int v] (fun U => U.heap.size = sz ∧ tk_E dC dI ka U ∧ va_P (dC, dI) clB [(b, .inl (ka 0, N, .inl f))] U.heap ∧ va_D (fun _ => True) [(b, .inl (ka 0, N, .inl f))])) (va_Qv (fun _ : Unit => True) (fun _ t => va_P (dC, dI) clB [(b, .inl (ka 0, N, .inl (fun _ => v)))] t.heap) (va_A [(b, .inl (ka 0, N, .inl f))] sz)) 0 0 (va_A [(b, .inl (ka 0, N, .inl f))] sz) := by
  refine va_MetF (cc := cJA_fill) (maxL := 4) (ret := none) (by decide +kernel) rfl ?_
  intro p e s m args below meth c s₁ B hml hv
  obtain ⟨rfl, hsz, hE, hP, hD0⟩ := hv
  have hx := B.exec
  have hb := B.bytes
  have hr := B.returns
  have hts := atoms_spec (ws := wJA_fill) B.pre
  have hq : ∀ w ∈ lwg, w.before _ s = true := fun w h => hts w (List.mem_cons_of_mem _ h)
  have hown : s.vm.findClass "java/util/Arrays" = some m.cls := findClass_of_methodNamed B.named
  have hlocks := B.notSynchronized
  have hK := hE.1
  have hN := hE.2
  subst hsz
  have hD := hD0.self (sz := s.heap.size)
  generalize hAe : va_A [(b, .inl (ka 0, N, .inl f))] s.heap.size = A at hD ⊢
  have hA : ∀ q : Nat, s.heap.size ≤ q → A q := fun q h => by rw [← hAe]; exact Or.inr h
  have hS : va_S A s.heap s.heap [] := va_S.rf
  have hP : va_P (dC, dI) clB [(b, .inl (ka 0, N, .inl f))] s.heap := hP
  have hl := lv_entry ([.ref b, .int v]) (n := 4) (Nat.le_of_ble_eq_true rfl)
  rw [lg_entry_eq]
  generalize (lg_sl ([.ref b, .int v]) ++ List.replicate (4 - (lg_sl ([.ref b, .int v])).length) Slot.unset).toArray = ls at hl ⊢
  have hl : lv_has ls 4 [(0, .ref b), (1, .int v)] := hl
  refine lv_iconst (v := 0) hx hb dJA_fill_0 (by decide) ?_
  refine lv_istore_n (lv' := [(2, .int 0), (0, .ref b), (1, .int v)]) hx hb dJA_fill_1 rfl hl (by decide) rfl (fun ls hl => ?_)
  refine lv_aload_n hx hb dJA_fill_2 rfl (lv_at hl 1 rfl) ?_
  refine va_alen (v := nI N) hx hb hK hP 0 0 rfl (ty := .byte) rfl rfl dJA_fill_3 ?_
  refine lv_istore_n (lv' := [(3, .int (nI N)), (2, .int 0), (0, .ref b), (1, .int v)]) hx hb dJA_fill_4 rfl hl (by decide) rfl (fun ls hl => ?_)
  refine tk_loop 5 (fun (n : Nat) (x : Nat) H locs ls => (x ≤ N) ∧ (n = N - x) ∧ va_P (dC, dI) clB [(b, .inl (ka 0, N, .inl (fun j => if j < x then v else f j)))] H ∧ va_D A [(b, .inl (ka 0, N, .inl (fun j => if j < x then v else f j)))] ∧ va_S A s.heap H locs ∧ lv_has ls 4 [(0, .ref b), (1, .int v), (2, .int (nI x)), (3, .int (nI N))]) ?_ N 0 ⟨Nat.zero_le _, rfl, (tk_same hP (fun j hj => by simp)), (tk_sameD hD), hS, lv_sub hl [2, 3, 1, 0] rfl⟩
  skip
  intro n x H locs ls hI ih
  obtain ⟨hi, hn, hP, hD, hS, hl⟩ := hI
  refine lv_iload_n hx hb dJA_fill_5 rfl (lv_at hl 2 rfl) ?_
  refine lv_iload_n hx hb dJA_fill_6 rfl (lv_at hl 3 rfl) ?_
  refine lv_icmp_ge (tgt := 20) hx hb dJA_fill_7 (by decide) (fun c_1 => ?_) (fun c_1 => ?_)
  · exact W.vret hx hb hr (fun t ht hW => ⟨⟨(), rfl, trivial, by show va_P _ _ _ t.heap; rw [ht]; exact (tk_same hP (fun j hj => by have := (nI_leI (a := N) (b := x) hM (by omega)).mp c_1; simp; omega))⟩, hS.F ht⟩) hS.2.2 dJA_fill_20
  · refine lv_aload_n hx hb dJA_fill_10 rfl (lv_at hl 0 rfl) ?_
    refine lv_iload_n hx hb dJA_fill_11 rfl (lv_at hl 2 rfl) ?_
    refine lv_iload_n hx hb dJA_fill_12 rfl (lv_at hl 1 rfl) ?_
    refine tk_bast (n := x) (v := v) hx hb hK hP hD hS 0 0 rfl rfl rfl (by have := mt (nI_leI (a := N) (b := x) hM (by omega)).mpr c_1; omega) (by omega) hv dJA_fill_13 (fun H locs hP hD hS => ?_)
    have hP : va_P (dC, dI) clB [(b, .inl (ka 0, N, .inl (upd (fun j => if j < x then v else f j) x v)))] H := hP
    have hD : va_D A [(b, .inl (ka 0, N, .inl (upd (fun j => if j < x then v else f j) x v)))] := hD
    refine lv_iinc (v := ((nI x) + 1)) (lv' := [(2, .int ((nI x) + 1)), (0, .ref b), (1, .int v), (3, .int (nI N))]) hx hb dJA_fill_14 hl (k := 2) rfl rfl (by decide) rfl (fun ls hl => ?_)
    refine lv_goto (tgt := 5) hx hb dJA_fill_17 (by decide) ?_
    have hlt : x < N := by have := mt (nI_leI (a := N) (b := x) hM (by omega)).mpr c_1; omega
    exact ih (n - 1) (x + 1) _ _ _ (by omega) ⟨by omega, by omega, (tk_same hP (fun j hj => by by_cases h1 : j = x <;> by_cases h2 : j < x <;> simp [upd, h1, h2] <;> omega)), (tk_sameD hD), hS, lv_sub hl [1, 2, 0, 3] (by rw [← nI_1]; rfl)⟩

set_option maxHeartbeats 4000000 in
set_option maxRecDepth 100000 in
theorem c_F_blank (l : Launch) (dC : Nat → ClassId) (dI : Nat → Nat → Nat) (ka : Nat → ClassId) (sz : Nat) (a b : Nat) (pg pn us di : Int32) (f : Nat → Int32) (x : Int32) : Met l yF_blank wF_blank ({ frames := 1, cells := 0, slots := 0, locals := 23 }) (va_Pc [.ref a, .int x] (fun U => U.heap.size = sz ∧ tk_E dC dI ka U ∧ va_P (dC, dI) clB [(a, .inr (1, [.ref b, .int pg, .int pn, .int us, .int di])), (b, .inl (ka 0, 512, .inl f))] U.heap ∧ va_D (fun _ => True) [(a, .inr (1, [.ref b, .int pg, .int pn, .int us, .int di])), (b, .inl (ka 0, 512, .inl f))])) (va_Qv (fun _ : Unit => True) (fun _ t => va_P (dC, dI) clB [(a, .inr (1, [.ref b, .int pg, .int pn, .int us, .int di])), (b, .inl (ka 0, 512, .inl (psB (fun _ => 0) x)))] t.heap) (va_A [(a, .inr (1, [.ref b, .int pg, .int pn, .int us, .int di])), (b, .inl (ka 0, 512, .inl f))] sz)) 0 0 (va_A [(a, .inr (1, [.ref b, .int pg, .int pn, .int us, .int di])), (b, .inl (ka 0, 512, .inl f))] sz) := by
  refine Met.ofW (cc := cF_blank) (maxL := 2) (ret := none) (by decide) rfl ?_
  intro p e s m args below meth c s₁ B hml hv
  obtain ⟨rfl, hsz, hE, hP, hD0⟩ := hv
  have hx := B.exec
  have hb := B.bytes
  have hr := B.returns
  have hts := atoms_spec (ws := wF_blank) B.pre
  have hq : ∀ w ∈ lwg, w.before _ s = true := fun w h => hts w (List.mem_cons_of_mem _ h)
  have hown : s.vm.findClass RF = some m.cls := findClass_of_methodNamed B.named
  have hlocks := B.notSynchronized
  have hK := hE.1
  have hN := hE.2
  subst hsz
  have hD := hD0.self (sz := s.heap.size)
  generalize hAe : va_A [(a, .inr (1, [.ref b, .int pg, .int pn, .int us, .int di])), (b, .inl (ka 0, 512, .inl f))] s.heap.size = A at hD ⊢
  have hA : ∀ q : Nat, s.heap.size ≤ q → A q := fun q h => by rw [← hAe]; exact Or.inr h
  have hS : va_S A s.heap s.heap [] := va_S.rf
  have hP : va_P (dC, dI) clB [(a, .inr (1, [.ref b, .int pg, .int pn, .int us, .int di])), (b, .inl (ka 0, 512, .inl f))] s.heap := hP
  have hl := lv_entry ([.ref a, .int x]) (n := 2) (Nat.le_of_ble_eq_true rfl)
  rw [lg_entry_eq]
  generalize (lg_sl ([.ref a, .int x]) ++ List.replicate (2 - (lg_sl ([.ref a, .int x])).length) Slot.unset).toArray = ls at hl ⊢
  have hl : lv_has ls 2 [(0, .ref a), (1, .int x)] := hl
  refine lv_aload_n hx hb dF_blank_0 rfl (lv_at hl 0 rfl) ?_
  refine va_get (D := (dC, dI)) (ci := 1) (v := .ref b) (C := RF) (T := TF) (N := 5) hx hb hts (inC inF) hown hK hP 0 rfl rfl 0 (by decide) (hq _ wi_93) (fun _ h9 => h9) rfl dF_blank_1 ?_
  refine lv_iconst (v := 0) hx hb dF_blank_4 (by decide) ?_
  have hFc := tk_free1 (k := 1) hD hS hA rfl
  refine va_callv (va_runS (As := [.ref b, .int 0]) (rest := []) ⟨hx, hb, hml, hown, hts⟩ (c_JA_fill l dC dI ka _ b 512 f 0 rfl (by decide)) (va_cwS 2 hts (tw_A wi_426 wi_427 wi_38 wi_428) rfl rfl rfl (by decide +kernel) ⟨Nat.le_of_ble_eq_true rfl, Nat.le_of_ble_eq_true rfl⟩) ⟨fun a U g mk q => ⟨q.1, q.2.1, tk_E.call q.2.2.1, q.2.2.2⟩, fun U hU hW => ⟨rfl, by rw [hU], tk_E.warm hW hE, by rw [hU]; exact (tk_one hP (k := 1) rfl), tk_done⟩⟩ rfl rfl hl.1 rfl (lv_room (Nat.le_of_ble_eq_true rfl)) dF_blank_5 ⟨Nat.zero_le _, Nat.zero_le _⟩) hS (fun q _ h => hFc q h) hFc (fun u_1 t H1 locs ht hvm hw hB hz1 hk1 hS => ?_)
  have hB : va_P (dC, dI) clB [(b, .inl (ka 0, 512, .inl (fun _ => 0)))] H1 := by rw [← ht]; exact hB
  obtain ⟨hP, hD⟩ := tk_join1 (k := 1) hP hD rfl hk1 hB
  generalize H1 = H at hP hS ⊢
  have hP : va_P (dC, dI) clB [(a, .inr (1, [.ref b, .int pg, .int pn, .int us, .int di])), (b, .inl (ka 0, 512, .inl (fun _ => 0)))] H := hP
  have hD : va_D A [(a, .inr (1, [.ref b, .int pg, .int pn, .int us, .int di])), (b, .inl (ka 0, 512, .inl (fun _ => 0)))] := hD
  refine lv_aload_n hx hb dF_blank_8 rfl (lv_at hl 0 rfl) ?_
  refine lv_iload_n hx hb dF_blank_9 rfl (lv_at hl 1 rfl) ?_
  have hFc := tk_free2 (k := 0) (k' := 1) hD hS hA rfl rfl
  refine va_callv (va_runV (As := [.int x]) (rest := []) ⟨hx, hb, hml, hown, hts⟩ (c_F_putStamps l dC dI ka _ a b pg pn us di (fun _ => 0) x) (cwV 1 hts (tw_V wi_370 wi_372 wi_7 wi_27 wi_373) rfl rfl rfl (by decide +kernel) ⟨Nat.le_of_ble_eq_true rfl, Nat.le_of_ble_eq_true rfl⟩) ⟨fun a U g mk q => ⟨q.1, q.2.1, tk_E.call q.2.2.1, q.2.2.2⟩, va_recv hK hP (ci := 1) (q0 := 0) rfl rfl, fun U hU hW => ⟨rfl, by rw [hU], tk_E.warm hW hE, by rw [hU]; exact (tk_two hP (k := 0) (k' := 1) rfl rfl), (tk_dtwo hD (k := 0) (k' := 1) rfl rfl (by decide))⟩⟩ rfl rfl hl.1 rfl (lv_room (Nat.le_of_ble_eq_true rfl)) dF_blank_10 ⟨Nat.zero_le _, Nat.zero_le _⟩) hS (fun q _ h => hFc q h) hFc (fun u_3 t H1 locs ht hvm hw hB hz1 hk1 hS => ?_)
  have hB : va_P (dC, dI) clB [(a, .inr (1, [.ref b, .int pg, .int pn, .int us, .int di])), (b, .inl (ka 0, 512, .inl (psB (fun _ => 0) x)))] H1 := by rw [← ht]; exact hB
  obtain ⟨hP, hD⟩ := tk_join2 (k := 0) (k' := 1) hP hD rfl rfl (by decide) hk1 hB
  generalize H1 = H at hP hS ⊢
  have hP : va_P (dC, dI) clB [(a, .inr (1, [.ref b, .int pg, .int pn, .int us, .int di])), (b, .inl (ka 0, 512, .inl (psB (fun _ => 0) x)))] H := hP
  have hD : va_D A [(a, .inr (1, [.ref b, .int pg, .int pn, .int us, .int di])), (b, .inl (ka 0, 512, .inl (psB (fun _ => 0) x)))] := hD
  exact W.vret hx hb hr (fun t ht hW => ⟨⟨(), rfl, trivial, by show va_P _ _ _ t.heap; rw [ht]; exact hP⟩, hS.F ht⟩) hS.2.2 dF_blank_13
