/-- the bytes behind a change -/
def chB (f : Nat → Int32) (n : Nat) (v pl : Int32) : Nat → Int32 := upd (upd (upd (upd (upd f n v.toInt8.toInt32) 2 ((pl.toUInt32 >>> ((24 : Int32).toUInt32 &&& Int32.toUInt32 31)).toInt32).toInt8.toInt32) 3 ((pl.toUInt32 >>> ((16 : Int32).toUInt32 &&& Int32.toUInt32 31)).toInt32).toInt8.toInt32) 4 ((pl.toUInt32 >>> ((8 : Int32).toUInt32 &&& Int32.toUInt32 31)).toInt32).toInt8.toInt32) 5 pl.toInt8.toInt32
/-- the bytes behind both stamps -/
def psB (f : Nat → Int32) (x : Int32) : Nat → Int32 := upd (upd (upd (upd f 0 ((x.toUInt32 >>> ((8 : Int32).toUInt32 &&& Int32.toUInt32 31)).toInt32).toInt8.toInt32) 1 x.toInt8.toInt32) 510 ((x.toUInt32 >>> ((8 : Int32).toUInt32 &&& Int32.toUInt32 31)).toInt32).toInt8.toInt32) 511 x.toInt8.toInt32

set_option maxHeartbeats 4000000 in
set_option maxRecDepth 100000 in
theorem c_F_change (l : Launch) (dC : Nat → ClassId) (dI : Nat → Nat → Nat) (ka : Nat → ClassId) (sz : Nat) (a b : Nat) (pg pn us di : Int32) (f : Nat → Int32) (x v pl : Int32) (n : Nat) (ex : x = nI n) (hn : n < 512) : Met l yF_change wF_change ({ frames := 0, cells := 0, slots := 0, locals := 0 }) (va_Pc [.ref a, .int x, .int v, .int pl] (fun U => U.heap.size = sz ∧ tk_E dC dI ka U ∧ va_P (dC, dI) clB [(a, .inr (1, [.ref b, .int pg, .int pn, .int us, .int di])), (b, .inl (ka 0, 512, .inl f))] U.heap ∧ va_D (fun _ => True) [(a, .inr (1, [.ref b, .int pg, .int pn, .int us, .int di])), (b, .inl (ka 0, 512, .inl f))])) (va_Qv (fun _ : Unit => True) (fun _ t => va_P (dC, dI) clB [(a, .inr (1, [.ref b, .int pg, .int pn, .int us, .int 1])), (b, .inl (ka 0, 512, .inl (chB f n v pl)))] t.heap) (va_A [(a, .inr (1, [.ref b, .int pg, .int pn, .int us, .int di])), (b, .inl (ka 0, 512, .inl f))] sz)) 0 0 (va_A [(a, .inr (1, [.ref b, .int pg, .int pn, .int us, .int di])), (b, .inl (ka 0, 512, .inl f))] sz) := by
  refine Met.ofW (cc := cF_change) (maxL := 4) (ret := none) (by decide) rfl ?_
  intro p e s m args below meth c s₁ B hml hv
  obtain ⟨rfl, hsz, hE, hP, hD0⟩ := hv
  have hx := B.exec
  have hb := B.bytes
  have hr := B.returns
  have hts := atoms_spec (ws := wF_change) B.pre
  have hq : ∀ w ∈ lwg, w.before _ s = true := fun w h => hts w (List.mem_cons_of_mem _ h)
  have hown : s.vm.findClass RF = some m.cls := findClass_of_methodNamed B.named
  have hlocks := B.notSynchronized
  have hK := hE.1
  have hN := hE.2
  subst hsz
  have hD := hD0.self (sz := s.heap.size)
  generalize hAe : va_A [(a, .inr (1, [.ref b, .int pg, .int pn, .int us, .int di])), (b, .inl (ka 0, 512, .inl f))] s.heap.size = A at hD ⊢
  have hA : ∀ q : Nat, s.heap.size ≤ q → A q := fun q h => by rw [← hAe]; exact Or.inr h
  have hS : va_S A s.heap s.heap [] := va_S.rf
  have hP : va_P (dC, dI) clB [(a, .inr (1, [.ref b, .int pg, .int pn, .int us, .int di])), (b, .inl (ka 0, 512, .inl f))] s.heap := hP
  have hl := lv_entry ([.ref a, .int x, .int v, .int pl]) (n := 4) (Nat.le_of_ble_eq_true rfl)
  rw [lg_entry_eq]
  generalize (lg_sl ([.ref a, .int x, .int v, .int pl]) ++ List.replicate (4 - (lg_sl ([.ref a, .int x, .int v, .int pl])).length) Slot.unset).toArray = ls at hl ⊢
  have hl : lv_has ls 4 [(0, .ref a), (1, .int x), (2, .int v), (3, .int pl)] := hl
  refine lv_aload_n hx hb dF_change_0 rfl (lv_at hl 0 rfl) ?_
  refine va_get (D := (dC, dI)) (ci := 1) (v := .ref b) (C := RF) (T := TF) (N := 5) hx hb hts (inC inF) hown hK hP 0 rfl rfl 0 (by decide) (hq _ wi_93) (fun _ h9 => h9) rfl dF_change_1 ?_
  refine lv_iload_n hx hb dF_change_4 rfl (lv_at hl 1 rfl) ?_
  refine lv_iload_n hx hb dF_change_5 rfl (lv_at hl 2 rfl) ?_
  refine lv_i2b hx hb dF_change_6 rfl ?_
  refine tk_bast (n := n) (v := v.toInt8.toInt32) hx hb hK hP hD hS 1 0 rfl rfl ex hn (by decide) (pk_vb _) dF_change_7 (fun H locs hP hD hS => ?_)
  have hP : va_P (dC, dI) clB [(a, .inr (1, [.ref b, .int pg, .int pn, .int us, .int di])), (b, .inl (ka 0, 512, .inl (upd f n (v.toInt8.toInt32))))] H := hP
  have hD : va_D A [(a, .inr (1, [.ref b, .int pg, .int pn, .int us, .int di])), (b, .inl (ka 0, 512, .inl (upd f n (v.toInt8.toInt32))))] := hD
  refine lv_aload_n hx hb dF_change_8 rfl (lv_at hl 0 rfl) ?_
  refine va_get (D := (dC, dI)) (ci := 1) (v := .ref b) (C := RF) (T := TF) (N := 5) hx hb hts (inC inF) hown hK hP 0 rfl rfl 0 (by decide) (hq _ wi_93) (fun _ h9 => h9) rfl dF_change_9 ?_
  refine lv_iconst (v := 2) hx hb dF_change_12 (by decide) ?_
  refine lv_iload_n hx hb dF_change_13 rfl (lv_at hl 3 rfl) ?_
  refine lv_bipush (v := 24) hx hb dF_change_14 (by decide) ?_
  refine lv_iushr hx hb dF_change_16 rfl ?_
  refine lv_i2b hx hb dF_change_17 rfl ?_
  refine tk_bast (n := 2) (v := ((pl.toUInt32 >>> ((24 : Int32).toUInt32 &&& Int32.toUInt32 31)).toInt32).toInt8.toInt32) hx hb hK hP hD hS 1 0 rfl rfl rfl (by decide) (by decide) (pk_vb _) dF_change_18 (fun H locs hP hD hS => ?_)
  have hP : va_P (dC, dI) clB [(a, .inr (1, [.ref b, .int pg, .int pn, .int us, .int di])), (b, .inl (ka 0, 512, .inl (upd (upd f n (v.toInt8.toInt32)) 2 (((pl.toUInt32 >>> ((24 : Int32).toUInt32 &&& Int32.toUInt32 31)).toInt32).toInt8.toInt32))))] H := hP
  have hD : va_D A [(a, .inr (1, [.ref b, .int pg, .int pn, .int us, .int di])), (b, .inl (ka 0, 512, .inl (upd (upd f n (v.toInt8.toInt32)) 2 (((pl.toUInt32 >>> ((24 : Int32).toUInt32 &&& Int32.toUInt32 31)).toInt32).toInt8.toInt32))))] := hD
  refine lv_aload_n hx hb dF_change_19 rfl (lv_at hl 0 rfl) ?_
  refine va_get (D := (dC, dI)) (ci := 1) (v := .ref b) (C := RF) (T := TF) (N := 5) hx hb hts (inC inF) hown hK hP 0 rfl rfl 0 (by decide) (hq _ wi_93) (fun _ h9 => h9) rfl dF_change_20 ?_
  refine lv_iconst (v := 3) hx hb dF_change_23 (by decide) ?_
  refine lv_iload_n hx hb dF_change_24 rfl (lv_at hl 3 rfl) ?_
  refine lv_bipush (v := 16) hx hb dF_change_25 (by decide) ?_
  refine lv_iushr hx hb dF_change_27 rfl ?_
  refine lv_i2b hx hb dF_change_28 rfl ?_
  refine tk_bast (n := 3) (v := ((pl.toUInt32 >>> ((16 : Int32).toUInt32 &&& Int32.toUInt32 31)).toInt32).toInt8.toInt32) hx hb hK hP hD hS 1 0 rfl rfl rfl (by decide) (by decide) (pk_vb _) dF_change_29 (fun H locs hP hD hS => ?_)
  have hP : va_P (dC, dI) clB [(a, .inr (1, [.ref b, .int pg, .int pn, .int us, .int di])), (b, .inl (ka 0, 512, .inl (upd (upd (upd f n (v.toInt8.toInt32)) 2 (((pl.toUInt32 >>> ((24 : Int32).toUInt32 &&& Int32.toUInt32 31)).toInt32).toInt8.toInt32)) 3 (((pl.toUInt32 >>> ((16 : Int32).toUInt32 &&& Int32.toUInt32 31)).toInt32).toInt8.toInt32))))] H := hP
  have hD : va_D A [(a, .inr (1, [.ref b, .int pg, .int pn, .int us, .int di])), (b, .inl (ka 0, 512, .inl (upd (upd (upd f n (v.toInt8.toInt32)) 2 (((pl.toUInt32 >>> ((24 : Int32).toUInt32 &&& Int32.toUInt32 31)).toInt32).toInt8.toInt32)) 3 (((pl.toUInt32 >>> ((16 : Int32).toUInt32 &&& Int32.toUInt32 31)).toInt32).toInt8.toInt32))))] := hD
  refine lv_aload_n hx hb dF_change_30 rfl (lv_at hl 0 rfl) ?_
  refine va_get (D := (dC, dI)) (ci := 1) (v := .ref b) (C := RF) (T := TF) (N := 5) hx hb hts (inC inF) hown hK hP 0 rfl rfl 0 (by decide) (hq _ wi_93) (fun _ h9 => h9) rfl dF_change_31 ?_
  refine lv_iconst (v := 4) hx hb dF_change_34 (by decide) ?_
  refine lv_iload_n hx hb dF_change_35 rfl (lv_at hl 3 rfl) ?_
  refine lv_bipush (v := 8) hx hb dF_change_36 (by decide) ?_
  refine lv_iushr hx hb dF_change_38 rfl ?_
  refine lv_i2b hx hb dF_change_39 rfl ?_
  refine tk_bast (n := 4) (v := ((pl.toUInt32 >>> ((8 : Int32).toUInt32 &&& Int32.toUInt32 31)).toInt32).toInt8.toInt32) hx hb hK hP hD hS 1 0 rfl rfl rfl (by decide) (by decide) (pk_vb _) dF_change_40 (fun H locs hP hD hS => ?_)
  have hP : va_P (dC, dI) clB [(a, .inr (1, [.ref b, .int pg, .int pn, .int us, .int di])), (b, .inl (ka 0, 512, .inl (upd (upd (upd (upd f n (v.toInt8.toInt32)) 2 (((pl.toUInt32 >>> ((24 : Int32).toUInt32 &&& Int32.toUInt32 31)).toInt32).toInt8.toInt32)) 3 (((pl.toUInt32 >>> ((16 : Int32).toUInt32 &&& Int32.toUInt32 31)).toInt32).toInt8.toInt32)) 4 (((pl.toUInt32 >>> ((8 : Int32).toUInt32 &&& Int32.toUInt32 31)).toInt32).toInt8.toInt32))))] H := hP
  have hD : va_D A [(a, .inr (1, [.ref b, .int pg, .int pn, .int us, .int di])), (b, .inl (ka 0, 512, .inl (upd (upd (upd (upd f n (v.toInt8.toInt32)) 2 (((pl.toUInt32 >>> ((24 : Int32).toUInt32 &&& Int32.toUInt32 31)).toInt32).toInt8.toInt32)) 3 (((pl.toUInt32 >>> ((16 : Int32).toUInt32 &&& Int32.toUInt32 31)).toInt32).toInt8.toInt32)) 4 (((pl.toUInt32 >>> ((8 : Int32).toUInt32 &&& Int32.toUInt32 31)).toInt32).toInt8.toInt32))))] := hD
  refine lv_aload_n hx hb dF_change_41 rfl (lv_at hl 0 rfl) ?_
  refine va_get (D := (dC, dI)) (ci := 1) (v := .ref b) (C := RF) (T := TF) (N := 5) hx hb hts (inC inF) hown hK hP 0 rfl rfl 0 (by decide) (hq _ wi_93) (fun _ h9 => h9) rfl dF_change_42 ?_
  refine lv_iconst (v := 5) hx hb dF_change_45 (by decide) ?_
  refine lv_iload_n hx hb dF_change_46 rfl (lv_at hl 3 rfl) ?_
  refine lv_i2b hx hb dF_change_47 rfl ?_
  refine tk_bast (n := 5) (v := pl.toInt8.toInt32) hx hb hK hP hD hS 1 0 rfl rfl rfl (by decide) (by decide) (pk_vb _) dF_change_48 (fun H locs hP hD hS => ?_)
  have hP : va_P (dC, dI) clB [(a, .inr (1, [.ref b, .int pg, .int pn, .int us, .int di])), (b, .inl (ka 0, 512, .inl (upd (upd (upd (upd (upd f n (v.toInt8.toInt32)) 2 (((pl.toUInt32 >>> ((24 : Int32).toUInt32 &&& Int32.toUInt32 31)).toInt32).toInt8.toInt32)) 3 (((pl.toUInt32 >>> ((16 : Int32).toUInt32 &&& Int32.toUInt32 31)).toInt32).toInt8.toInt32)) 4 (((pl.toUInt32 >>> ((8 : Int32).toUInt32 &&& Int32.toUInt32 31)).toInt32).toInt8.toInt32)) 5 (pl.toInt8.toInt32))))] H := hP
  have hD : va_D A [(a, .inr (1, [.ref b, .int pg, .int pn, .int us, .int di])), (b, .inl (ka 0, 512, .inl (upd (upd (upd (upd (upd f n (v.toInt8.toInt32)) 2 (((pl.toUInt32 >>> ((24 : Int32).toUInt32 &&& Int32.toUInt32 31)).toInt32).toInt8.toInt32)) 3 (((pl.toUInt32 >>> ((16 : Int32).toUInt32 &&& Int32.toUInt32 31)).toInt32).toInt8.toInt32)) 4 (((pl.toUInt32 >>> ((8 : Int32).toUInt32 &&& Int32.toUInt32 31)).toInt32).toInt8.toInt32)) 5 (pl.toInt8.toInt32))))] := hD
  refine lv_aload_n hx hb dF_change_49 rfl (lv_at hl 0 rfl) ?_
  refine lv_iconst (v := 1) hx hb dF_change_50 (by decide) ?_
  refine va_put (D := (dC, dI)) (ci := 1) (v := .int 1) (ty := .boolean) (C := RF) (T := TF) (N := 5) hx hb hts (inC inF) tyF tyF_ok nmF hown hK hP hD hS 0 rfl rfl 4 (by decide) (hq _ wi_102) (fun _ h9 => h9) rfl (by decide +kernel) rfl rfl (Nat.le_of_ble_eq_true rfl) dF_change_51 (fun H locs hP hD hS => ?_)
  have hP : va_P (dC, dI) clB [(a, .inr (1, [.ref b, .int pg, .int pn, .int us, .int 1])), (b, .inl (ka 0, 512, .inl (upd (upd (upd (upd (upd f n (v.toInt8.toInt32)) 2 (((pl.toUInt32 >>> ((24 : Int32).toUInt32 &&& Int32.toUInt32 31)).toInt32).toInt8.toInt32)) 3 (((pl.toUInt32 >>> ((16 : Int32).toUInt32 &&& Int32.toUInt32 31)).toInt32).toInt8.toInt32)) 4 (((pl.toUInt32 >>> ((8 : Int32).toUInt32 &&& Int32.toUInt32 31)).toInt32).toInt8.toInt32)) 5 (pl.toInt8.toInt32))))] H := hP
  have hD : va_D A [(a, .inr (1, [.ref b, .int pg, .int pn, .int us, .int 1])), (b, .inl (ka 0, 512, .inl (upd (upd (upd (upd (upd f n (v.toInt8.toInt32)) 2 (((pl.toUInt32 >>> ((24 : Int32).toUInt32 &&& Int32.toUInt32 31)).toInt32).toInt8.toInt32)) 3 (((pl.toUInt32 >>> ((16 : Int32).toUInt32 &&& Int32.toUInt32 31)).toInt32).toInt8.toInt32)) 4 (((pl.toUInt32 >>> ((8 : Int32).toUInt32 &&& Int32.toUInt32 31)).toInt32).toInt8.toInt32)) 5 (pl.toInt8.toInt32))))] := hD
  exact W.vret hx hb hr (fun t ht hW => ⟨⟨(), rfl, trivial, by show va_P _ _ _ t.heap; rw [ht]; exact hP⟩, hS.F ht⟩) hS.2.2 dF_change_54

set_option maxHeartbeats 4000000 in
set_option maxRecDepth 100000 in
theorem c_F_putStamps (l : Launch) (dC : Nat → ClassId) (dI : Nat → Nat → Nat) (ka : Nat → ClassId) (sz : Nat) (a b : Nat) (pg pn us di : Int32) (f : Nat → Int32) (x : Int32) : Met l yF_putStamps wF_putStamps ({ frames := 0, cells := 0, slots := 0, locals := 0 }) (va_Pc [.ref a, .int x] (fun U => U.heap.size = sz ∧ tk_E dC dI ka U ∧ va_P (dC, dI) clB [(a, .inr (1, [.ref b, .int pg, .int pn, .int us, .int di])), (b, .inl (ka 0, 512, .inl f))] U.heap ∧ va_D (fun _ => True) [(a, .inr (1, [.ref b, .int pg, .int pn, .int us, .int di])), (b, .inl (ka 0, 512, .inl f))])) (va_Qv (fun _ : Unit => True) (fun _ t => va_P (dC, dI) clB [(a, .inr (1, [.ref b, .int pg, .int pn, .int us, .int di])), (b, .inl (ka 0, 512, .inl (psB f x)))] t.heap) (va_A [(a, .inr (1, [.ref b, .int pg, .int pn, .int us, .int di])), (b, .inl (ka 0, 512, .inl f))] sz)) 0 0 (va_A [(a, .inr (1, [.ref b, .int pg, .int pn, .int us, .int di])), (b, .inl (ka 0, 512, .inl f))] sz) := by
  refine Met.ofW (cc := cF_putStamps) (maxL := 2) (ret := none) (by decide) rfl ?_
  intro p e s m args below meth c s₁ B hml hv
  obtain ⟨rfl, hsz, hE, hP, hD0⟩ := hv
  have hx := B.exec
  have hb := B.bytes
  have hr := B.returns
  have hts := atoms_spec (ws := wF_putStamps) B.pre
  have hq : ∀ w ∈ lwg, w.before _ s = true := fun w h => hts w (List.mem_cons_of_mem _ h)
  have hown : s.vm.findClass RF = some m.cls := findClass_of_methodNamed B.named
  have hlocks := B.notSynchronized
  have hK := hE.1
  have hN := hE.2
  subst hsz
  have hD := hD0.self (sz := s.heap.size)
  generalize hAe : va_A [(a, .inr (1, [.ref b, .int pg, .int pn, .int us, .int di])), (b, .inl (ka 0, 512, .inl f))] s.heap.size = A at hD ⊢
  have hA : ∀ q : Nat, s.heap.size ≤ q → A q := fun q h => by rw [← hAe]; exact Or.inr h
  have hS : va_S A s.heap s.heap [] := va_S.rf
  have hP : va_P (dC, dI) clB [(a, .inr (1, [.ref b, .int pg, .int pn, .int us, .int di])), (b, .inl (ka 0, 512, .inl f))] s.heap := hP
  have hl := lv_entry ([.ref a, .int x]) (n := 2) (Nat.le_of_ble_eq_true rfl)
  rw [lg_entry_eq]
  generalize (lg_sl ([.ref a, .int x]) ++ List.replicate (2 - (lg_sl ([.ref a, .int x])).length) Slot.unset).toArray = ls at hl ⊢
  have hl : lv_has ls 2 [(0, .ref a), (1, .int x)] := hl
  refine lv_aload_n hx hb dF_putStamps_0 rfl (lv_at hl 0 rfl) ?_
  refine va_get (D := (dC, dI)) (ci := 1) (v := .ref b) (C := RF) (T := TF) (N := 5) hx hb hts (inC inF) hown hK hP 0 rfl rfl 0 (by decide) (hq _ wi_93) (fun _ h9 => h9) rfl dF_putStamps_1 ?_
  refine lv_iconst (v := 0) hx hb dF_putStamps_4 (by decide) ?_
  refine lv_iload_n hx hb dF_putStamps_5 rfl (lv_at hl 1 rfl) ?_
  refine lv_bipush (v := 8) hx hb dF_putStamps_6 (by decide) ?_
  refine lv_iushr hx hb dF_putStamps_8 rfl ?_
  refine lv_i2b hx hb dF_putStamps_9 rfl ?_
  refine tk_bast (n := 0) (v := ((x.toUInt32 >>> ((8 : Int32).toUInt32 &&& Int32.toUInt32 31)).toInt32).toInt8.toInt32) hx hb hK hP hD hS 1 0 rfl rfl rfl (by decide) (by decide) (pk_vb _) dF_putStamps_10 (fun H locs hP hD hS => ?_)
  have hP : va_P (dC, dI) clB [(a, .inr (1, [.ref b, .int pg, .int pn, .int us, .int di])), (b, .inl (ka 0, 512, .inl (upd f 0 (((x.toUInt32 >>> ((8 : Int32).toUInt32 &&& Int32.toUInt32 31)).toInt32).toInt8.toInt32))))] H := hP
  have hD : va_D A [(a, .inr (1, [.ref b, .int pg, .int pn, .int us, .int di])), (b, .inl (ka 0, 512, .inl (upd f 0 (((x.toUInt32 >>> ((8 : Int32).toUInt32 &&& Int32.toUInt32 31)).toInt32).toInt8.toInt32))))] := hD
  refine lv_aload_n hx hb dF_putStamps_11 rfl (lv_at hl 0 rfl) ?_
  refine va_get (D := (dC, dI)) (ci := 1) (v := .ref b) (C := RF) (T := TF) (N := 5) hx hb hts (inC inF) hown hK hP 0 rfl rfl 0 (by decide) (hq _ wi_93) (fun _ h9 => h9) rfl dF_putStamps_12 ?_
  refine lv_iconst (v := 1) hx hb dF_putStamps_15 (by decide) ?_
  refine lv_iload_n hx hb dF_putStamps_16 rfl (lv_at hl 1 rfl) ?_
  refine lv_i2b hx hb dF_putStamps_17 rfl ?_
  refine tk_bast (n := 1) (v := x.toInt8.toInt32) hx hb hK hP hD hS 1 0 rfl rfl rfl (by decide) (by decide) (pk_vb _) dF_putStamps_18 (fun H locs hP hD hS => ?_)
  have hP : va_P (dC, dI) clB [(a, .inr (1, [.ref b, .int pg, .int pn, .int us, .int di])), (b, .inl (ka 0, 512, .inl (upd (upd f 0 (((x.toUInt32 >>> ((8 : Int32).toUInt32 &&& Int32.toUInt32 31)).toInt32).toInt8.toInt32)) 1 (x.toInt8.toInt32))))] H := hP
  have hD : va_D A [(a, .inr (1, [.ref b, .int pg, .int pn, .int us, .int di])), (b, .inl (ka 0, 512, .inl (upd (upd f 0 (((x.toUInt32 >>> ((8 : Int32).toUInt32 &&& Int32.toUInt32 31)).toInt32).toInt8.toInt32)) 1 (x.toInt8.toInt32))))] := hD
  refine lv_aload_n hx hb dF_putStamps_19 rfl (lv_at hl 0 rfl) ?_
  refine va_get (D := (dC, dI)) (ci := 1) (v := .ref b) (C := RF) (T := TF) (N := 5) hx hb hts (inC inF) hown hK hP 0 rfl rfl 0 (by decide) (hq _ wi_93) (fun _ h9 => h9) rfl dF_putStamps_20 ?_
  refine lv_sipush (v := 510) hx hb dF_putStamps_23 (by decide) ?_
  refine lv_aload_n hx hb dF_putStamps_26 rfl (lv_at hl 0 rfl) ?_
  refine va_get (D := (dC, dI)) (ci := 1) (v := .ref b) (C := RF) (T := TF) (N := 5) hx hb hts (inC inF) hown hK hP 0 rfl rfl 0 (by decide) (hq _ wi_93) (fun _ h9 => h9) rfl dF_putStamps_27 ?_
  refine lv_iconst (v := 0) hx hb dF_putStamps_30 (by decide) ?_
  refine tk_bald (n := 0) hx hb hK hP 1 0 rfl rfl rfl (by decide) (by decide) dF_putStamps_31 ?_
  refine tk_bast (n := 510) (v := ((x.toUInt32 >>> ((8 : Int32).toUInt32 &&& Int32.toUInt32 31)).toInt32).toInt8.toInt32) hx hb hK hP hD hS 1 0 rfl rfl rfl (by decide) (by decide) (pk_vb _) dF_putStamps_32 (fun H locs hP hD hS => ?_)
  have hP : va_P (dC, dI) clB [(a, .inr (1, [.ref b, .int pg, .int pn, .int us, .int di])), (b, .inl (ka 0, 512, .inl (upd (upd (upd f 0 (((x.toUInt32 >>> ((8 : Int32).toUInt32 &&& Int32.toUInt32 31)).toInt32).toInt8.toInt32)) 1 (x.toInt8.toInt32)) 510 (((x.toUInt32 >>> ((8 : Int32).toUInt32 &&& Int32.toUInt32 31)).toInt32).toInt8.toInt32))))] H := hP
  have hD : va_D A [(a, .inr (1, [.ref b, .int pg, .int pn, .int us, .int di])), (b, .inl (ka 0, 512, .inl (upd (upd (upd f 0 (((x.toUInt32 >>> ((8 : Int32).toUInt32 &&& Int32.toUInt32 31)).toInt32).toInt8.toInt32)) 1 (x.toInt8.toInt32)) 510 (((x.toUInt32 >>> ((8 : Int32).toUInt32 &&& Int32.toUInt32 31)).toInt32).toInt8.toInt32))))] := hD
  refine lv_aload_n hx hb dF_putStamps_33 rfl (lv_at hl 0 rfl) ?_
  refine va_get (D := (dC, dI)) (ci := 1) (v := .ref b) (C := RF) (T := TF) (N := 5) hx hb hts (inC inF) hown hK hP 0 rfl rfl 0 (by decide) (hq _ wi_93) (fun _ h9 => h9) rfl dF_putStamps_34 ?_
  refine lv_sipush (v := 511) hx hb dF_putStamps_37 (by decide) ?_
  refine lv_aload_n hx hb dF_putStamps_40 rfl (lv_at hl 0 rfl) ?_
  refine va_get (D := (dC, dI)) (ci := 1) (v := .ref b) (C := RF) (T := TF) (N := 5) hx hb hts (inC inF) hown hK hP 0 rfl rfl 0 (by decide) (hq _ wi_93) (fun _ h9 => h9) rfl dF_putStamps_41 ?_
  refine lv_iconst (v := 1) hx hb dF_putStamps_44 (by decide) ?_
  refine tk_bald (n := 1) hx hb hK hP 1 0 rfl rfl rfl (by decide) (by decide) dF_putStamps_45 ?_
  refine tk_bast (n := 511) (v := x.toInt8.toInt32) hx hb hK hP hD hS 1 0 rfl rfl rfl (by decide) (by decide) (pk_vb _) dF_putStamps_46 (fun H locs hP hD hS => ?_)
  have hP : va_P (dC, dI) clB [(a, .inr (1, [.ref b, .int pg, .int pn, .int us, .int di])), (b, .inl (ka 0, 512, .inl (upd (upd (upd (upd f 0 (((x.toUInt32 >>> ((8 : Int32).toUInt32 &&& Int32.toUInt32 31)).toInt32).toInt8.toInt32)) 1 (x.toInt8.toInt32)) 510 (((x.toUInt32 >>> ((8 : Int32).toUInt32 &&& Int32.toUInt32 31)).toInt32).toInt8.toInt32)) 511 (x.toInt8.toInt32))))] H := hP
  have hD : va_D A [(a, .inr (1, [.ref b, .int pg, .int pn, .int us, .int di])), (b, .inl (ka 0, 512, .inl (upd (upd (upd (upd f 0 (((x.toUInt32 >>> ((8 : Int32).toUInt32 &&& Int32.toUInt32 31)).toInt32).toInt8.toInt32)) 1 (x.toInt8.toInt32)) 510 (((x.toUInt32 >>> ((8 : Int32).toUInt32 &&& Int32.toUInt32 31)).toInt32).toInt8.toInt32)) 511 (x.toInt8.toInt32))))] := hD
  exact W.vret hx hb hr (fun t ht hW => ⟨⟨(), rfl, trivial, by show va_P _ _ _ t.heap; rw [ht]; exact hP⟩, hS.F ht⟩) hS.2.2 dF_putStamps_47

set_option maxHeartbeats 4000000 in
set_option maxRecDepth 100000 in
theorem c_F_raiseStamps (l : Launch) (dC : Nat → ClassId) (dI : Nat → Nat → Nat) (ka : Nat → ClassId) (sz : Nat) (a b : Nat) (pg pn us di : Int32) (f : Nat → Int32) : Met l yF_raiseStamps wF_raiseStamps ({ frames := 1, cells := 0, slots := 0, locals := 21 }) (va_Pc [.ref a] (fun U => U.heap.size = sz ∧ tk_E dC dI ka U ∧ va_P (dC, dI) clB [(a, .inr (1, [.ref b, .int pg, .int pn, .int us, .int di])), (b, .inl (ka 0, 512, .inl f))] U.heap ∧ va_D (fun _ => True) [(a, .inr (1, [.ref b, .int pg, .int pn, .int us, .int di])), (b, .inl (ka 0, 512, .inl f))])) (va_Qv (fun _ : Unit => True) (fun _ t => va_P (dC, dI) clB [(a, .inr (1, [.ref b, .int pg, .int pn, .int us, .int di])), (b, .inl (ka 0, 512, .inl (psB f (tb2 f 0 + 1))))] t.heap) (va_A [(a, .inr (1, [.ref b, .int pg, .int pn, .int us, .int di])), (b, .inl (ka 0, 512, .inl f))] sz)) 0 0 (va_A [(a, .inr (1, [.ref b, .int pg, .int pn, .int us, .int di])), (b, .inl (ka 0, 512, .inl f))] sz) := by
  refine Met.ofW (cc := cF_raiseStamps) (maxL := 1) (ret := none) (by decide) rfl ?_
  intro p e s m args below meth c s₁ B hml hv
  obtain ⟨rfl, hsz, hE, hP, hD0⟩ := hv
  have hx := B.exec
  have hb := B.bytes
  have hr := B.returns
  have hts := atoms_spec (ws := wF_raiseStamps) B.pre
  have hq : ∀ w ∈ lwg, w.before _ s = true := fun w h => hts w (List.mem_cons_of_mem _ h)
  have hown : s.vm.findClass RF = some m.cls := findClass_of_methodNamed B.named
  have hlocks := B.notSynchronized
  have hK := hE.1
  have hN := hE.2
  subst hsz
  have hD := hD0.self (sz := s.heap.size)
  generalize hAe : va_A [(a, .inr (1, [.ref b, .int pg, .int pn, .int us, .int di])), (b, .inl (ka 0, 512, .inl f))] s.heap.size = A at hD ⊢
  have hA : ∀ q : Nat, s.heap.size ≤ q → A q := fun q h => by rw [← hAe]; exact Or.inr h
  have hS : va_S A s.heap s.heap [] := va_S.rf
  have hP : va_P (dC, dI) clB [(a, .inr (1, [.ref b, .int pg, .int pn, .int us, .int di])), (b, .inl (ka 0, 512, .inl f))] s.heap := hP
  have hl := lv_entry ([.ref a]) (n := 1) (Nat.le_of_ble_eq_true rfl)
  rw [lg_entry_eq]
  generalize (lg_sl ([.ref a]) ++ List.replicate (1 - (lg_sl ([.ref a])).length) Slot.unset).toArray = ls at hl ⊢
  have hl : lv_has ls 1 [(0, .ref a)] := hl
  refine lv_aload_n hx hb dF_raiseStamps_0 rfl (lv_at hl 0 rfl) ?_
  refine lv_aload_n hx hb dF_raiseStamps_1 rfl (lv_at hl 0 rfl) ?_
  refine va_get (D := (dC, dI)) (ci := 1) (v := .ref b) (C := RF) (T := TF) (N := 5) hx hb hts (inC inF) hown hK hP 0 rfl rfl 0 (by decide) (hq _ wi_93) (fun _ h9 => h9) rfl dF_raiseStamps_2 ?_
  refine lv_iconst (v := 0) hx hb dF_raiseStamps_5 (by decide) ?_
  refine vp_callSi (va_Run.run (va_runSN (As := [.ref b, .int 0]) (rest := [.ref a]) ⟨hx, hb, hml, hown, hts⟩ (c_B_twoBytes l dC dI ka b 512 f 0 0 rfl (by decide) (by decide)) ⟨va_cnB 2 hts (tw_I wi_163) rfl rfl rfl (hN _ ns_13) (hq _ wi_24) (by decide +kernel) ⟨Nat.le_of_ble_eq_true rfl, Nat.le_of_ble_eq_true rfl⟩, hq _ wi_162, trivial⟩ ⟨fun a U g mk q => ⟨q.1, tk_E.call q.2.1, q.2.2⟩, fun U hU hW => ⟨rfl, tk_E.warm hW hE, by rw [hU]; exact (tk_one hP (k := 1) rfl)⟩⟩ rfl rfl hl.1 rfl (lv_room (Nat.le_of_ble_eq_true rfl)) dF_raiseStamps_6 ⟨Nat.zero_le _, Nat.zero_le _⟩)) (fun r_1 er_1 => ?_)
  subst er_1
  refine lv_iconst (v := 1) hx hb dF_raiseStamps_9 (by decide) ?_
  refine lv_iadd hx hb dF_raiseStamps_10 ?_
  have hFc := tk_free2 (k := 0) (k' := 1) hD hS hA rfl rfl
  refine va_callv (va_runV (As := [.int ((tb2 f 0) + 1)]) (rest := []) ⟨hx, hb, hml, hown, hts⟩ (c_F_putStamps l dC dI ka _ a b pg pn us di f ((tb2 f 0) + 1)) (cwV 1 hts (tw_V wi_370 wi_372 wi_7 wi_27 wi_373) rfl rfl rfl (by decide +kernel) ⟨Nat.le_of_ble_eq_true rfl, Nat.le_of_ble_eq_true rfl⟩) ⟨fun a U g mk q => ⟨q.1, q.2.1, tk_E.call q.2.2.1, q.2.2.2⟩, va_recv hK hP (ci := 1) (q0 := 0) rfl rfl, fun U hU hW => ⟨rfl, by rw [hU], tk_E.warm hW hE, by rw [hU]; exact (tk_two hP (k := 0) (k' := 1) rfl rfl), (tk_dtwo hD (k := 0) (k' := 1) rfl rfl (by decide))⟩⟩ rfl rfl hl.1 rfl (lv_room (Nat.le_of_ble_eq_true rfl)) dF_raiseStamps_11 ⟨Nat.zero_le _, Nat.zero_le _⟩) hS (fun q _ h => hFc q h) hFc (fun u_2 t H1 locs ht hvm hw hB hz1 hk1 hS => ?_)
  have hB : va_P (dC, dI) clB [(a, .inr (1, [.ref b, .int pg, .int pn, .int us, .int di])), (b, .inl (ka 0, 512, .inl (psB f ((tb2 f 0) + 1))))] H1 := by rw [← ht]; exact hB
  obtain ⟨hP, hD⟩ := tk_join2 (k := 0) (k' := 1) hP hD rfl rfl (by decide) hk1 hB
  generalize H1 = H at hP hS ⊢
  have hP : va_P (dC, dI) clB [(a, .inr (1, [.ref b, .int pg, .int pn, .int us, .int di])), (b, .inl (ka 0, 512, .inl (psB f ((tb2 f 0) + 1))))] H := hP
  have hD : va_D A [(a, .inr (1, [.ref b, .int pg, .int pn, .int us, .int di])), (b, .inl (ka 0, 512, .inl (psB f ((tb2 f 0) + 1))))] := hD
  exact W.vret hx hb hr (fun t ht hW => ⟨⟨(), rfl, trivial, by show va_P _ _ _ t.heap; rw [ht]; exact hP⟩, hS.F ht⟩) hS.2.2 dF_raiseStamps_14

set_option maxHeartbeats 4000000 in
set_option maxRecDepth 100000 in
theorem c_G_advance (l : Launch) (dC : Nat → ClassId) (dI : Nat → Nat → Nat) (ka : Nat → ClassId) (sz : Nat) (a : Nat) (en fl x : Int32) : Met l yG_advance wG_advance ({ frames := 0, cells := 0, slots := 0, locals := 0 }) (va_Pc [.ref a, .int x] (fun U => U.heap.size = sz ∧ tk_E dC dI ka U ∧ va_P (dC, dI) clB [(a, .inr (2, [.int en, .int fl]))] U.heap ∧ va_D (fun _ => True) [(a, .inr (2, [.int en, .int fl]))])) (va_Qi (fun (r : Int32) (_ : Unit) => r = if en < x then 1 else 0) (fun _ t => va_P (dC, dI) clB [(a, .inr (2, [.int (if en < x then x else en), .int fl]))] t.heap) (va_A [(a, .inr (2, [.int en, .int fl]))] sz)) 0 0 (va_A [(a, .inr (2, [.int en, .int fl]))] sz) := by
  refine Met.ofW (cc := cG_advance) (maxL := 2) (ret := (some .boolean)) (by decide) rfl ?_
  intro p e s m args below meth c s₁ B hml hv
  obtain ⟨rfl, hsz, hE, hP, hD0⟩ := hv
  have hx := B.exec
  have hb := B.bytes
  have hr := B.returns
  have hts := atoms_spec (ws := wG_advance) B.pre
  have hq : ∀ w ∈ lwg, w.before _ s = true := fun w h => hts w (List.mem_cons_of_mem _ h)
  have hown : s.vm.findClass RG = some m.cls := findClass_of_methodNamed B.named
  have hlocks := B.notSynchronized
  have hK := hE.1
  have hN := hE.2
  subst hsz
  have hD := hD0.self (sz := s.heap.size)
  generalize hAe : va_A [(a, .inr (2, [.int en, .int fl]))] s.heap.size = A at hD ⊢
  have hA : ∀ q : Nat, s.heap.size ≤ q → A q := fun q h => by rw [← hAe]; exact Or.inr h
  have hS : va_S A s.heap s.heap [] := va_S.rf
  have hP : va_P (dC, dI) clB [(a, .inr (2, [.int en, .int fl]))] s.heap := hP
  have hl := lv_entry ([.ref a, .int x]) (n := 2) (Nat.le_of_ble_eq_true rfl)
  rw [lg_entry_eq]
  generalize (lg_sl ([.ref a, .int x]) ++ List.replicate (2 - (lg_sl ([.ref a, .int x])).length) Slot.unset).toArray = ls at hl ⊢
  have hl : lv_has ls 2 [(0, .ref a), (1, .int x)] := hl
  refine lv_iload_n hx hb dG_advance_0 rfl (lv_at hl 1 rfl) ?_
  refine lv_aload_n hx hb dG_advance_1 rfl (lv_at hl 0 rfl) ?_
  refine va_get (D := (dC, dI)) (ci := 2) (v := .int en) (C := RG) (T := TG) (N := 2) hx hb hts (inC inG) hown hK hP 0 rfl rfl 0 (by decide) (hq _ wi_77) (fun _ h9 => h9) rfl dG_advance_2 ?_
  refine lv_icmp_gt (tgt := 10) hx hb dG_advance_5 (by decide) (fun c_1 => ?_) (fun c_1 => ?_)
  · refine lv_aload_n hx hb dG_advance_10 rfl (lv_at hl 0 rfl) ?_
    refine lv_iload_n hx hb dG_advance_11 rfl (lv_at hl 1 rfl) ?_
    refine va_put (D := (dC, dI)) (ci := 2) (v := .int x) (ty := .int) (C := RG) (T := TG) (N := 2) hx hb hts (inC inG) tyG tyG_ok nmG hown hK hP hD hS 0 rfl rfl 0 (by decide) (hq _ wi_77) (fun _ h9 => h9) rfl (by decide +kernel) rfl rfl (Nat.le_of_ble_eq_true rfl) dG_advance_12 (fun H locs hP hD hS => ?_)
    have hP : va_P (dC, dI) clB [(a, .inr (2, [.int x, .int fl]))] H := hP
    have hD : va_D A [(a, .inr (2, [.int x, .int fl]))] := hD
    refine lv_iconst (v := 1) hx hb dG_advance_15 (by decide) ?_
    exact W.zret (v := 1) (ty := .boolean) hx hb hr rfl (fun t ht hW => ⟨⟨1, (), rfl, (by simp [c_1]), by show va_P _ _ _ t.heap; rw [ht]; exact (by simpa [c_1] using hP)⟩, hS.F ht⟩) hS.2.2 dG_advance_16
  · refine lv_iconst (v := 0) hx hb dG_advance_8 (by decide) ?_
    exact W.zret (v := 0) (ty := .boolean) hx hb hr rfl (fun t ht hW => ⟨⟨0, (), rfl, (by simp [c_1]), by show va_P _ _ _ t.heap; rw [ht]; exact (by simpa [c_1] using hP)⟩, hS.F ht⟩) hS.2.2 dG_advance_9

set_option maxHeartbeats 4000000 in
set_option maxRecDepth 100000 in
theorem c_G_reach (l : Launch) (dC : Nat → ClassId) (dI : Nat → Nat → Nat) (ka : Nat → ClassId) (sz : Nat) (a : Nat) (en fl x : Int32) : Met l yG_reach wG_reach ({ frames := 1, cells := 0, slots := 0, locals := 21 }) (va_Pc [.ref a, .int x] (fun U => U.heap.size = sz ∧ tk_E dC dI ka U ∧ va_P (dC, dI) clB [(a, .inr (2, [.int en, .int fl]))] U.heap ∧ va_D (fun _ => True) [(a, .inr (2, [.int en, .int fl]))])) (va_Qv (fun _ : Unit => True) (fun _ t => va_P (dC, dI) clB [(a, .inr (2, [.int (if en < x then x else en), .int (if en < x then fl + 1 else fl)]))] t.heap) (va_A [(a, .inr (2, [.int en, .int fl]))] sz)) 0 0 (va_A [(a, .inr (2, [.int en, .int fl]))] sz) := by
  refine Met.ofW (cc := cG_reach) (maxL := 2) (ret := none) (by decide) rfl ?_
  intro p e s m args below meth c s₁ B hml hv
  obtain ⟨rfl, hsz, hE, hP, hD0⟩ := hv
  have hx := B.exec
  have hb := B.bytes
  have hr := B.returns
  have hts := atoms_spec (ws := wG_reach) B.pre
  have hq : ∀ w ∈ lwg, w.before _ s = true := fun w h => hts w (List.mem_cons_of_mem _ h)
  have hown : s.vm.findClass RG = some m.cls := findClass_of_methodNamed B.named
  have hlocks := B.notSynchronized
  have hK := hE.1
  have hN := hE.2
  subst hsz
  have hD := hD0.self (sz := s.heap.size)
  generalize hAe : va_A [(a, .inr (2, [.int en, .int fl]))] s.heap.size = A at hD ⊢
  have hA : ∀ q : Nat, s.heap.size ≤ q → A q := fun q h => by rw [← hAe]; exact Or.inr h
  have hS : va_S A s.heap s.heap [] := va_S.rf
  have hP : va_P (dC, dI) clB [(a, .inr (2, [.int en, .int fl]))] s.heap := hP
  have hl := lv_entry ([.ref a, .int x]) (n := 2) (Nat.le_of_ble_eq_true rfl)
  rw [lg_entry_eq]
  generalize (lg_sl ([.ref a, .int x]) ++ List.replicate (2 - (lg_sl ([.ref a, .int x])).length) Slot.unset).toArray = ls at hl ⊢
  have hl : lv_has ls 2 [(0, .ref a), (1, .int x)] := hl
  refine lv_aload_n hx hb dG_reach_0 rfl (lv_at hl 0 rfl) ?_
  refine lv_iload_n hx hb dG_reach_1 rfl (lv_at hl 1 rfl) ?_
  have hFc := tk_free1 (k := 0) hD hS hA rfl
  refine va_calli (va_runV (As := [.int x]) (rest := []) ⟨hx, hb, hml, hown, hts⟩ (c_G_advance l dC dI ka _ a en fl x) (cwV 1 hts (tw_V wi_365 wi_173 wi_174 wi_26 wi_175) rfl rfl rfl (by decide +kernel) ⟨Nat.le_of_ble_eq_true rfl, Nat.le_of_ble_eq_true rfl⟩) ⟨fun a U g mk q => ⟨q.1, q.2.1, tk_E.call q.2.2.1, q.2.2.2⟩, va_recv hK hP (ci := 2) (q0 := 0) rfl rfl, fun U hU hW => ⟨rfl, by rw [hU], tk_E.warm hW hE, by rw [hU]; exact (tk_one hP (k := 0) rfl), tk_done⟩⟩ rfl rfl hl.1 rfl (lv_room (Nat.le_of_ble_eq_true rfl)) dG_reach_2 ⟨Nat.zero_le _, Nat.zero_le _⟩) hS (fun q _ h => hFc q h) hFc (fun r_2 u_1 t H1 locs ht hvm hw hB hz1 hk1 hS => ?_)
  have hB : va_P (dC, dI) clB [(a, .inr (2, [.int (if en < x then x else en), .int fl]))] H1 := by rw [← ht]; exact hB
  obtain ⟨hP, hD⟩ := tk_join1 (k := 0) hP hD rfl hk1 hB
  generalize H1 = H at hP hS ⊢
  have hP : va_P (dC, dI) clB [(a, .inr (2, [.int (if en < x then x else en), .int fl]))] H := hP
  have hD : va_D A [(a, .inr (2, [.int (if en < x then x else en), .int fl]))] := hD
  subst hw
  refine lv_if_eq (tgt := 18) hx hb dG_reach_5 (by decide) (fun c_3 => ?_) (fun c_3 => ?_)
  · exact W.vret hx hb hr (fun t ht hW => ⟨⟨(), rfl, trivial, by show va_P _ _ _ t.heap; rw [ht]; exact (by by_cases hz : en < x <;> simp [hz] at c_3 hP ⊢ <;> exact hP)⟩, hS.F ht⟩) hS.2.2 dG_reach_18
  · refine lv_aload_n hx hb dG_reach_8 rfl (lv_at hl 0 rfl) ?_
    refine lv_dup hx hb dG_reach_9 rfl ?_
    refine va_get (D := (dC, dI)) (ci := 2) (v := .int fl) (C := RG) (T := TG) (N := 2) hx hb hts (inC inG) hown hK hP 0 rfl rfl 1 (by decide) (hq _ wi_79) (fun _ h9 => h9) rfl dG_reach_10 ?_
    refine lv_iconst (v := 1) hx hb dG_reach_13 (by decide) ?_
    refine lv_iadd hx hb dG_reach_14 ?_
    refine va_put (D := (dC, dI)) (ci := 2) (v := .int (fl + 1)) (ty := .int) (C := RG) (T := TG) (N := 2) hx hb hts (inC inG) tyG tyG_ok nmG hown hK hP hD hS 0 rfl rfl 1 (by decide) (hq _ wi_79) (fun _ h9 => h9) rfl (by decide +kernel) rfl rfl (Nat.le_of_ble_eq_true rfl) dG_reach_15 (fun H locs hP hD hS => ?_)
    have hP : va_P (dC, dI) clB [(a, .inr (2, [.int (if en < x then x else en), .int (fl + 1)]))] H := hP
    have hD : va_D A [(a, .inr (2, [.int (if en < x then x else en), .int (fl + 1)]))] := hD
    exact W.vret hx hb hr (fun t ht hW => ⟨⟨(), rfl, trivial, by show va_P _ _ _ t.heap; rw [ht]; exact (by by_cases hz : en < x <;> simp [hz] at c_3 hP ⊢ <;> exact hP)⟩, hS.F ht⟩) hS.2.2 dG_reach_18

set_option maxHeartbeats 4000000 in
set_option maxRecDepth 100000 in
theorem c_D_byteAt (l : Launch) (dC : Nat → ClassId) (dI : Nat → Nat → Nat) (ka : Nat → ClassId) (a b : Nat) (lf wn rd : Int32) (f : Nat → Int32) (x y : Int32) (n k : Nat) (ex : x = nI n) (hn : n < 192) (ey : y = nI k) (hk : k < 512) : Met l yD_byteAt wD_byteAt ({ frames := 0, cells := 0, slots := 0, locals := 0 }) (va_Pc [.ref a, .int x, .int y] (fun U => tk_E dC dI ka U ∧ va_P (dC, dI) clB [(a, .inr (0, [.ref b, .int lf, .int wn, .int rd])), (b, .inl (ka 0, 98304, .inl f))] U.heap)) (vp_Si (fun r => r = f (n * 512 + k) &&& 255)) 0 0 (fun _ => False) := by
  refine Met.ofW (cc := cD_byteAt) (maxL := 3) (ret := (some .int)) (by decide) rfl ?_
  intro p e s m args below meth c s₁ B hml hv
  obtain ⟨rfl, hE, hP⟩ := hv
  have hx := B.exec
  have hb := B.bytes
  have hr := B.returns
  have hts := atoms_spec (ws := wD_byteAt) B.pre
  have hq : ∀ w ∈ lwg, w.before _ s = true := fun w h => hts w (List.mem_cons_of_mem _ h)
  have hown : s.vm.findClass RD = some m.cls := findClass_of_methodNamed B.named
  have hlocks := B.notSynchronized
  have hK := hE.1
  have hN := hE.2
  have hP : va_P (dC, dI) clB [(a, .inr (0, [.ref b, .int lf, .int wn, .int rd])), (b, .inl (ka 0, 98304, .inl f))] s.heap := hP
  have hl := lv_entry ([.ref a, .int x, .int y]) (n := 3) (Nat.le_of_ble_eq_true rfl)
  rw [lg_entry_eq]
  generalize (lg_sl ([.ref a, .int x, .int y]) ++ List.replicate (3 - (lg_sl ([.ref a, .int x, .int y])).length) Slot.unset).toArray = ls at hl ⊢
  have hl : lv_has ls 3 [(0, .ref a), (1, .int x), (2, .int y)] := hl
  refine lv_aload_n hx hb dD_byteAt_0 rfl (lv_at hl 0 rfl) ?_
  refine va_get (D := (dC, dI)) (ci := 0) (v := .ref b) (C := RD) (T := TD) (N := 4) hx hb hts (inC inD) hown hK hP 0 rfl rfl 0 (by decide) (hq _ wi_54) (fun _ h9 => h9) rfl dD_byteAt_1 ?_
  refine lv_iload_n hx hb dD_byteAt_4 rfl (lv_at hl 1 rfl) ?_
  refine lv_sipush (v := 512) hx hb dD_byteAt_5 (by decide) ?_
  refine lv_imul hx hb dD_byteAt_8 ?_
  refine lv_iload_n hx hb dD_byteAt_9 rfl (lv_at hl 2 rfl) ?_
  refine lv_iadd hx hb dD_byteAt_10 ?_
  refine tk_bald (n := n * 512 + k) hx hb hK hP 1 0 rfl rfl (by rw [ex, ey]; exact (congrArg (· + nI k) (pk_mul n 512)).trans (nI_add _ _)) (by omega) (by decide) dD_byteAt_11 ?_
  refine lv_sipush (v := 255) hx hb dD_byteAt_12 (by decide) ?_
  refine lv_iand hx hb dD_byteAt_15 ?_
  exact W.iret (v := ((f (n * 512 + k)) &&& 255)) hx hb hr (fun t ht hW => ⟨((f (n * 512 + k)) &&& 255), rfl, rfl, ht⟩) (fun _ h => by cases h) dD_byteAt_16

set_option maxHeartbeats 4000000 in
set_option maxRecDepth 100000 in
theorem c_D_firstStamp (l : Launch) (dC : Nat → ClassId) (dI : Nat → Nat → Nat) (ka : Nat → ClassId) (a b : Nat) (lf wn rd : Int32) (f : Nat → Int32) (x : Int32) (n : Nat) (ex : x = nI n) (hn : n < 192) : Met l yD_firstStamp wD_firstStamp ({ frames := 1, cells := 0, slots := 0, locals := 21 }) (va_Pc [.ref a, .int x] (fun U => tk_E dC dI ka U ∧ va_P (dC, dI) clB [(a, .inr (0, [.ref b, .int lf, .int wn, .int rd])), (b, .inl (ka 0, 98304, .inl f))] U.heap)) (vp_Si (fun r => r = tb2 f (n * 512))) 0 0 (fun _ => False) := by
  refine Met.ofW (cc := cD_firstStamp) (maxL := 2) (ret := (some .int)) (by decide) rfl ?_
  intro p e s m args below meth c s₁ B hml hv
  obtain ⟨rfl, hE, hP⟩ := hv
  have hx := B.exec
  have hb := B.bytes
  have hr := B.returns
  have hts := atoms_spec (ws := wD_firstStamp) B.pre
  have hq : ∀ w ∈ lwg, w.before _ s = true := fun w h => hts w (List.mem_cons_of_mem _ h)
  have hown : s.vm.findClass RD = some m.cls := findClass_of_methodNamed B.named
  have hlocks := B.notSynchronized
  have hK := hE.1
  have hN := hE.2
  have hP : va_P (dC, dI) clB [(a, .inr (0, [.ref b, .int lf, .int wn, .int rd])), (b, .inl (ka 0, 98304, .inl f))] s.heap := hP
  have hl := lv_entry ([.ref a, .int x]) (n := 2) (Nat.le_of_ble_eq_true rfl)
  rw [lg_entry_eq]
  generalize (lg_sl ([.ref a, .int x]) ++ List.replicate (2 - (lg_sl ([.ref a, .int x])).length) Slot.unset).toArray = ls at hl ⊢
  have hl : lv_has ls 2 [(0, .ref a), (1, .int x)] := hl
  refine lv_aload_n hx hb dD_firstStamp_0 rfl (lv_at hl 0 rfl) ?_
  refine va_get (D := (dC, dI)) (ci := 0) (v := .ref b) (C := RD) (T := TD) (N := 4) hx hb hts (inC inD) hown hK hP 0 rfl rfl 0 (by decide) (hq _ wi_54) (fun _ h9 => h9) rfl dD_firstStamp_1 ?_
  refine lv_iload_n hx hb dD_firstStamp_4 rfl (lv_at hl 1 rfl) ?_
  refine lv_sipush (v := 512) hx hb dD_firstStamp_5 (by decide) ?_
  refine lv_imul hx hb dD_firstStamp_8 ?_
  refine lv_iconst (v := 0) hx hb dD_firstStamp_9 (by decide) ?_
  refine lv_iadd hx hb dD_firstStamp_10 ?_
  refine vp_callSi (va_Run.run (va_runSN (As := [.ref b, .int ((x * 512) + 0)]) (rest := []) ⟨hx, hb, hml, hown, hts⟩ (c_B_twoBytes l dC dI ka b 98304 f ((x * 512) + 0) (n * 512) (by rw [ex]; exact (congrArg (· + (0 : Int32)) (pk_mul n 512)).trans (by rw [Int32.add_zero])) (by omega) (by decide)) ⟨va_cnB 2 hts (tw_I wi_163) rfl rfl rfl (hN _ ns_14) (hq _ wi_24) (by decide +kernel) ⟨Nat.le_of_ble_eq_true rfl, Nat.le_of_ble_eq_true rfl⟩, hq _ wi_162, trivial⟩ ⟨fun a U g mk q => ⟨q.1, tk_E.call q.2.1, q.2.2⟩, fun U hU hW => ⟨rfl, tk_E.warm hW hE, by rw [hU]; exact (tk_one hP (k := 1) rfl)⟩⟩ rfl rfl hl.1 rfl (lv_room (Nat.le_of_ble_eq_true rfl)) dD_firstStamp_11 ⟨Nat.zero_le _, Nat.zero_le _⟩)) (fun r_1 er_1 => ?_)
  subst er_1
  exact W.iret (v := (tb2 f (n * 512))) hx hb hr (fun t ht hW => ⟨(tb2 f (n * 512)), rfl, rfl, ht⟩) (fun _ h => by cases h) dD_firstStamp_14

set_option maxHeartbeats 4000000 in
set_option maxRecDepth 100000 in
theorem c_D_isTorn (l : Launch) (dC : Nat → ClassId) (dI : Nat → Nat → Nat) (ka : Nat → ClassId) (a b : Nat) (lf wn rd : Int32) (f : Nat → Int32) (x : Int32) (n : Nat) (ex : x = nI n) (hn : n < 192) : Met l yD_isTorn wD_isTorn ({ frames := 2, cells := 0, slots := 0, locals := 42 }) (va_Pc [.ref a, .int x] (fun U => tk_E dC dI ka U ∧ va_P (dC, dI) clB [(a, .inr (0, [.ref b, .int lf, .int wn, .int rd])), (b, .inl (ka 0, 98304, .inl f))] U.heap)) (vp_Si (fun r => r = if tb2 f (n * 512) = tb2 f (n * 512 + 510) then 0 else 1)) 0 0 (fun _ => False) := by
  refine Met.ofW (cc := cD_isTorn) (maxL := 2) (ret := (some .boolean)) (by decide) rfl ?_
  intro p e s m args below meth c s₁ B hml hv
  obtain ⟨rfl, hE, hP⟩ := hv
  have hx := B.exec
  have hb := B.bytes
  have hr := B.returns
  have hts := atoms_spec (ws := wD_isTorn) B.pre
  have hq : ∀ w ∈ lwg, w.before _ s = true := fun w h => hts w (List.mem_cons_of_mem _ h)
  have hown : s.vm.findClass RD = some m.cls := findClass_of_methodNamed B.named
  have hlocks := B.notSynchronized
  have hK := hE.1
  have hN := hE.2
  have hP : va_P (dC, dI) clB [(a, .inr (0, [.ref b, .int lf, .int wn, .int rd])), (b, .inl (ka 0, 98304, .inl f))] s.heap := hP
  have hl := lv_entry ([.ref a, .int x]) (n := 2) (Nat.le_of_ble_eq_true rfl)
  rw [lg_entry_eq]
  generalize (lg_sl ([.ref a, .int x]) ++ List.replicate (2 - (lg_sl ([.ref a, .int x])).length) Slot.unset).toArray = ls at hl ⊢
  have hl : lv_has ls 2 [(0, .ref a), (1, .int x)] := hl
  refine lv_aload_n hx hb dD_isTorn_0 rfl (lv_at hl 0 rfl) ?_
  refine lv_iload_n hx hb dD_isTorn_1 rfl (lv_at hl 1 rfl) ?_
  refine vp_callSi (va_Run.run (va_runV (As := [.int x]) (rest := []) ⟨hx, hb, hml, hown, hts⟩ (c_D_firstStamp l dC dI ka a b lf wn rd f x n ex hn) (cwV 1 hts (tw_V wi_199 wi_200 wi_201 wi_25 wi_202) rfl rfl rfl (by decide +kernel) ⟨Nat.le_of_ble_eq_true rfl, Nat.le_of_ble_eq_true rfl⟩) ⟨fun a U g mk q => ⟨q.1, tk_E.call q.2.1, q.2.2⟩, va_recv hK hP (ci := 0) (q0 := 0) rfl rfl, fun U hU hW => ⟨rfl, tk_E.warm hW hE, by rw [hU]; exact (tk_two hP (k := 0) (k' := 1) rfl rfl)⟩⟩ rfl rfl hl.1 rfl (lv_room (Nat.le_of_ble_eq_true rfl)) dD_isTorn_2 ⟨Nat.zero_le _, Nat.zero_le _⟩)) (fun r_1 er_1 => ?_)
  subst er_1
  refine lv_aload_n hx hb dD_isTorn_5 rfl (lv_at hl 0 rfl) ?_
  refine va_get (D := (dC, dI)) (ci := 0) (v := .ref b) (C := RD) (T := TD) (N := 4) hx hb hts (inC inD) hown hK hP 0 rfl rfl 0 (by decide) (hq _ wi_54) (fun _ h9 => h9) rfl dD_isTorn_6 ?_
  refine lv_iload_n hx hb dD_isTorn_9 rfl (lv_at hl 1 rfl) ?_
  refine lv_sipush (v := 512) hx hb dD_isTorn_10 (by decide) ?_
  refine lv_imul hx hb dD_isTorn_13 ?_
  refine lv_sipush (v := 510) hx hb dD_isTorn_14 (by decide) ?_
  refine lv_iadd hx hb dD_isTorn_17 ?_
  refine vp_callSi (va_Run.run (va_runSN (As := [.ref b, .int ((x * 512) + 510)]) (rest := [.int (tb2 f (n * 512))]) ⟨hx, hb, hml, hown, hts⟩ (c_B_twoBytes l dC dI ka b 98304 f ((x * 512) + 510) (n * 512 + 510) (by rw [ex]; exact (congrArg (· + (510 : Int32)) (pk_mul n 512)).trans (nI_add _ 510)) (by omega) (by decide)) ⟨va_cnB 2 hts (tw_I wi_163) rfl rfl rfl (hN _ ns_14) (hq _ wi_24) (by decide +kernel) ⟨Nat.le_of_ble_eq_true rfl, Nat.le_of_ble_eq_true rfl⟩, hq _ wi_162, trivial⟩ ⟨fun a U g mk q => ⟨q.1, tk_E.call q.2.1, q.2.2⟩, fun U hU hW => ⟨rfl, tk_E.warm hW hE, by rw [hU]; exact (tk_one hP (k := 1) rfl)⟩⟩ rfl rfl hl.1 rfl (lv_room (Nat.le_of_ble_eq_true rfl)) dD_isTorn_18 ⟨Nat.zero_le _, Nat.zero_le _⟩)) (fun r_2 er_2 => ?_)
  subst er_2
  refine lv_icmp_eq (tgt := 28) hx hb dD_isTorn_21 (by decide) (fun c_3 => ?_) (fun c_3 => ?_)
  · refine lv_iconst (v := 0) hx hb dD_isTorn_28 (by decide) ?_
    exact W.zret (v := 0) (ty := .boolean) hx hb hr rfl (fun t ht hW => ⟨0, rfl, (by simp [c_3]), ht⟩) (fun _ h => by cases h) dD_isTorn_29
  · refine lv_iconst (v := 1) hx hb dD_isTorn_24 (by decide) ?_
    refine lv_goto (tgt := 29) hx hb dD_isTorn_25 (by decide) ?_
    exact W.zret (v := 1) (ty := .boolean) hx hb hr rfl (fun t ht hW => ⟨1, rfl, (by simp [c_3]), ht⟩) (fun _ h => by cases h) dD_isTorn_29
