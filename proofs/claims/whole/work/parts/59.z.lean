/-! THE DESK'S OWN CONSTRUCTOR -/
def bI (ka : Nat → ClassId) (h dr db lg fa : Nat) (f : Nat → Option Nat) : va_W :=
  [(h, .inr (3, [.ref dr, .ref lg, .ref fa, .int 0])), (dr, .inr (0, [.ref db, .int (-1), .int 0, .int 0])), (db, .inl (ka 0, 98304, .inl (fun _ => 0))), (lg, .inr (2, [.int 0, .int 0])), (fa, .inl (ka 1, 12, .inr (.inr (.inr (.inr f)))))]
abbrev dw0 (h dr db lg fa : Nat) (fr fb : Nat → Nat) (ka : Nat → ClassId) : va_W := dw h dr db lg fa fr fb ka (fun _ => -1) (fun _ => 0) (fun _ => 0) (fun _ => 0) (fun _ _ => 0) (fun _ => 0) (-1) 0 0 0 0 0
theorem bI_dwP {D : va_G} {cl : List vw_C} {H : Heap} {ka : Nat → ClassId} {h dr db lg fa : Nat} {fr fb : Nat → Nat} (hP : va_P D cl (bI ka h dr db lg fa (fun i => some (fr i)) ++ ilv ka fr fb 12) H) : va_P D cl (dw0 h dr db lg fa fr fb ka) H :=
  hP.sub [0, 1, 2, 3, 4, 5, 7, 9, 11, 13, 15, 17, 19, 21, 23, 25, 27, 6, 8, 10, 12, 14, 16, 18, 20, 22, 24, 26, 28] rfl
theorem bI_dwD {A : Nat → Prop} {ka : Nat → ClassId} {h dr db lg fa : Nat} {f : Nat → Option Nat} {fr fb : Nat → Nat} (hD : va_D A (bI ka h dr db lg fa f ++ ilv ka fr fb 12)) : va_D A (dw0 h dr db lg fa fr fb ka) :=
  by
    refine tk_Dmap ?_ (hD.sub (ws' := bI ka h dr db lg fa f ++ (tk_row 12 fr (fun i => .inr (1, [.ref (fb i), .int (-1), .int 0, .int 0, .int 0])) ++ tk_row 12 fb (fun _ => .inl (ka 0, 512, .inl (fun _ => 0))))) [0, 1, 2, 3, 4, 5, 7, 9, 11, 13, 15, 17, 19, 21, 23, 25, 27, 6, 8, 10, 12, 14, 16, 18, 20, 22, 24, 26, 28] rfl rfl)
    rfl
theorem bI_last {ka : Nat → ClassId} {h dr db lg fa : Nat} {f : Nat → Option Nat} {fr fb : Nat → Nat} {z : Nat} {x : Nat × va_E} {ws : va_W} : ((bI ka h dr db lg fa f ++ ilv ka fr fb z) ++ (x :: ws))[5 + 2 * z]? = some x := by
  have e : (bI ka h dr db lg fa f ++ ilv ka fr fb z).length = 5 + 2 * z := by rw [List.length_append, ilv_len]; rfl
  rw [List.getElem?_append_right (by omega), e, Nat.sub_self]; rfl
theorem bI_grow {ka : Nat → ClassId} {fr fb : Nat → Nat} {z q u : Nat} : ilv ka (va_up fr z q) (va_up fb z u) (z + 1) = ilv ka fr fb z ++ [(q, .inr (1, [.ref u, .int (-1), .int 0, .int 0, .int 0])), (u, .inl (ka 0, 512, .inl (fun _ => 0)))] := by
  show ilv ka (va_up fr z q) (va_up fb z u) z ++ [(va_up fr z q z, _), (va_up fb z u z, _)] = _
  rw [ilv_congr (ka := ka) (fr := va_up fr z q) (fb := va_up fb z u) (fr' := fr) (fb' := fb) (fun i hi => by simp [va_up, Nat.ne_of_lt hi])]
  simp [va_up]
theorem bI_fun {fr : Nat → Nat} {z q : Nat} (j : Nat) : va_up (fun i => if i < z then some (fr i) else none) z (some q) j = (fun i => if i < z + 1 then some (va_up fr z q i) else none) j := by
  by_cases h : j = z
  · subst h; simp [va_up]
  · by_cases h2 : j < z
    · simp [va_up, h, h2, Nat.lt_succ_of_lt h2]
    · have : ¬ j < z + 1 := by omega
      simp [va_up, h, h2, this]

set_option maxHeartbeats 4000000 in
set_option maxRecDepth 100000 in
theorem c_B_init (l : Launch) (dC : Nat → ClassId) (dI : Nat → Nat → Nat) (ka : Nat → ClassId) (sz : Nat) (h : Nat) : Met l yB_init wB_init ({ frames := 2, cells := 28, slots := 104526, locals := 32 }) (va_Pc [.ref h] (fun U => U.heap.size = sz ∧ tk_E dC dI ka U ∧ va_P (dC, dI) clB [(h, .inr (3, [.null, .null, .null, .int 0]))] U.heap ∧ va_D (fun _ => True) [(h, .inr (3, [.null, .null, .null, .int 0]))] ∧ va_AO RF U)) (va_Qv (fun _ : Nat × Nat × Nat × Nat × (Nat → Nat) × (Nat → Nat) => True) (fun u t => va_P (dC, dI) clB (dw0 h u.1 u.2.1 u.2.2.1 u.2.2.2.1 u.2.2.2.2.1 u.2.2.2.2.2 ka) t.heap ∧ va_D (va_A [(h, .inr (3, [.null, .null, .null, .int 0]))] sz) (dw0 h u.1 u.2.1 u.2.2.1 u.2.2.2.1 u.2.2.2.2.1 u.2.2.2.2.2 ka)) (va_A [(h, .inr (3, [.null, .null, .null, .int 0]))] sz)) 28 104526 (va_A [(h, .inr (3, [.null, .null, .null, .int 0]))] sz) := by
  refine Met.ofW (cc := cB_init) (maxL := 2) (ret := none) (by decide) rfl ?_
  intro p e s m args below meth c s₁ B hml hv
  obtain ⟨rfl, hsz, hE, hP, hD0, hAO⟩ := hv
  have hx := B.exec
  have hb := B.bytes
  have hr := B.returns
  have hts := atoms_spec (ws := wB_init) B.pre
  have hq : ∀ w ∈ lwg, w.before _ s = true := fun w h => hts w (List.mem_cons_of_mem _ h)
  have hown : s.vm.findClass RB = some m.cls := findClass_of_methodNamed B.named
  have hlocks := B.notSynchronized
  have hK := hE.1
  have hN := hE.2
  have hin : meth.name = "<init>" := (name_of_methodNamed B.named B.method).1
  subst hsz
  have hD := hD0.self (sz := s.heap.size)
  generalize hAe : va_A [(h, .inr (3, [.null, .null, .null, .int 0]))] s.heap.size = A at hD ⊢
  have hA : ∀ q : Nat, s.heap.size ≤ q → A q := fun q h => by rw [← hAe]; exact Or.inr h
  have hS : va_S A s.heap s.heap [] := va_S.rf
  have hP : va_P (dC, dI) clB [(h, .inr (3, [.null, .null, .null, .int 0]))] s.heap := hP
  have hl := lv_entry ([.ref h]) (n := 2) (Nat.le_of_ble_eq_true rfl)
  rw [lg_entry_eq]
  generalize (lg_sl ([.ref h]) ++ List.replicate (2 - (lg_sl ([.ref h])).length) Slot.unset).toArray = ls at hl ⊢
  have hl : lv_has ls 2 [(0, .ref h)] := hl
  refine lv_aload_n hx hb dB_init_0 rfl (lv_at hl 0 rfl) ?_
  refine W.objInit hx hb hown (hq _ wi_44) (hq _ wi_45) (hq _ wi_46) rfl (by rw [hml]; exact hl.1) rfl dB_init_1 (Nat.le_of_ble_eq_true rfl) (Nat.le_of_ble_eq_true rfl) ?_
  refine W.eq (g2 := F0 m 4 ls []) rfl ?_
  refine lv_aload_n hx hb dB_init_4 rfl (lv_at hl 0 rfl) ?_
  refine va_new (ci := 0) (fs := [.null, .int 0, .int 0, .int 0]) (C := RD) (T := TD) (N := 4) hx hb hts (inC inD) tyD tyD_ok hown (hq _ wi_47) (hq _ wi_48) (hq _ wi_25) hK hP hD hS hA rfl (fun j hj => by rcases (show j = 0 ∨ j = 1 ∨ j = 2 ∨ j = 3 by omega) with rfl | rfl | rfl | rfl <;> rfl) (Nat.le_of_ble_eq_true rfl) (Nat.le_of_ble_eq_true rfl) dB_init_5 (fun q5 H hP hD hS => ?_)
  have hP : va_P (dC, dI) clB [(h, .inr (3, [.null, .null, .null, .int 0])), (q5, .inr (0, [.null, .int 0, .int 0, .int 0]))] H := hP
  have hD : va_D A [(h, .inr (3, [.null, .null, .null, .int 0])), (q5, .inr (0, [.null, .int 0, .int 0, .int 0]))] := hD
  refine lv_dup hx hb dB_init_8 rfl ?_
  have hFc := tk_freeG (ws := [(h, .inr (3, [.null, .null, .null, .int 0]))]) (wc := [(q5, .inr (0, [.null, .int 0, .int 0, .int 0]))]) hD hS hA
  refine va_callv (va_runIN (As := []) (rest := [.ref q5, .ref h]) ⟨hx, hb, hml, hown, hts⟩ (c_D_init l dC dI ka _ q5) ⟨va_cnB 0 hts (tw_I wi_51) rfl rfl rfl (hN _ ns_0) (hq _ wi_25) (by decide +kernel) ⟨(Nat.le_of_ble_eq_true rfl), (Nat.le_of_ble_eq_true rfl)⟩, rfl, hq _ wi_50⟩ ⟨fun a U g mk q => ⟨q.1, q.2.1, tk_E.call q.2.2.1, q.2.2.2⟩, fun U hU hW => ⟨rfl, by rw [hU], tk_E.warm hW hE, by rw [hU]; exact tk_lastP (ws := [(h, .inr (3, [.null, .null, .null, .int 0]))]) hP, tk_done⟩⟩ rfl rfl hl.1 rfl (lv_room (Nat.le_of_ble_eq_true rfl)) dB_init_9 ⟨(Nat.le_of_ble_eq_true rfl), (Nat.le_of_ble_eq_true rfl)⟩) hS (fun q _ h => hFc q h) hFc (fun u9 t H1 locs ht hvm hw hB hz1 hk1 hS => ?_)
  have hB1 : va_P (dC, dI) clB [(q5, .inr (0, [.ref u9, .int (-1), .int 0, .int 0])), (u9, .inl (ka 0, 98304, .inl (fun _ => 0)))] H1 := by rw [← ht]; exact hB.1
  obtain ⟨hP, hD⟩ := tk_joinG (ws := [(h, .inr (3, [.null, .null, .null, .int 0]))]) (wc := [(q5, .inr (0, [.null, .int 0, .int 0, .int 0]))]) hP hD hk1 hFc hB1 hB.2
  generalize H1 = H at hP hS ⊢
  have hP : va_P (dC, dI) clB [(h, .inr (3, [.null, .null, .null, .int 0])), (q5, .inr (0, [.ref u9, .int (-1), .int 0, .int 0])), (u9, .inl (ka 0, 98304, .inl (fun _ => 0)))] H := hP
  have hD : va_D A [(h, .inr (3, [.null, .null, .null, .int 0])), (q5, .inr (0, [.ref u9, .int (-1), .int 0, .int 0])), (u9, .inl (ka 0, 98304, .inl (fun _ => 0)))] := hD
  refine va_putF (D := (dC, dI)) (ci := 3) (v := .ref q5) (ty := (.object "BufferDesk$Drive")) (C := RB) (T := TB) (N := 4) hx hb hts (inC inB) tyB tyB_ok nmB hown hK hP hD hS 0 rfl rfl 0 (by decide) (hq _ wi_114) (fun _ h9 => h9) rfl hin rfl (by decide +kernel) rfl rfl (Nat.le_of_ble_eq_true rfl) dB_init_12 (fun H locs hP hD hS => ?_)
  have hP : va_P (dC, dI) clB [(h, .inr (3, [.ref q5, .null, .null, .int 0])), (q5, .inr (0, [.ref u9, .int (-1), .int 0, .int 0])), (u9, .inl (ka 0, 98304, .inl (fun _ => 0)))] H := hP
  have hD : va_D A [(h, .inr (3, [.ref q5, .null, .null, .int 0])), (q5, .inr (0, [.ref u9, .int (-1), .int 0, .int 0])), (u9, .inl (ka 0, 98304, .inl (fun _ => 0)))] := hD
  refine lv_aload_n hx hb dB_init_15 rfl (lv_at hl 0 rfl) ?_
  refine va_new (ci := 2) (fs := [.int 0, .int 0]) (C := RG) (T := TG) (N := 2) hx hb hts (inC inG) tyG tyG_ok hown (hq _ wi_71) (hq _ wi_72) (hq _ wi_26) hK hP hD hS hA rfl (fun j hj => by rcases (show j = 0 ∨ j = 1 by omega) with rfl | rfl <;> rfl) (Nat.le_of_ble_eq_true rfl) (Nat.le_of_ble_eq_true rfl) dB_init_16 (fun q16 H hP hD hS => ?_)
  have hP : va_P (dC, dI) clB [(h, .inr (3, [.ref q5, .null, .null, .int 0])), (q5, .inr (0, [.ref u9, .int (-1), .int 0, .int 0])), (u9, .inl (ka 0, 98304, .inl (fun _ => 0))), (q16, .inr (2, [.int 0, .int 0]))] H := hP
  have hD : va_D A [(h, .inr (3, [.ref q5, .null, .null, .int 0])), (q5, .inr (0, [.ref u9, .int (-1), .int 0, .int 0])), (u9, .inl (ka 0, 98304, .inl (fun _ => 0))), (q16, .inr (2, [.int 0, .int 0]))] := hD
  refine lv_dup hx hb dB_init_19 rfl ?_
  have hFc := tk_freeG (ws := [(h, .inr (3, [.ref q5, .null, .null, .int 0])), (q5, .inr (0, [.ref u9, .int (-1), .int 0, .int 0])), (u9, .inl (ka 0, 98304, .inl (fun _ => 0)))]) (wc := [(q16, .inr (2, [.int 0, .int 0]))]) hD hS hA
  refine va_callv (va_runIN (As := []) (rest := [.ref q16, .ref h]) ⟨hx, hb, hml, hown, hts⟩ (c_G_init l dC dI ka _ q16) ⟨va_cnB 0 hts (tw_I wi_75) rfl rfl rfl (hN _ ns_4) (hq _ wi_26) (by decide +kernel) ⟨(Nat.le_of_ble_eq_true rfl), (Nat.le_of_ble_eq_true rfl)⟩, rfl, hq _ wi_74⟩ ⟨fun a U g mk q => ⟨q.1, q.2.1, tk_E.call q.2.2.1, q.2.2.2⟩, fun U hU hW => ⟨rfl, by rw [hU], tk_E.warm hW hE, by rw [hU]; exact tk_lastP (ws := [(h, .inr (3, [.ref q5, .null, .null, .int 0])), (q5, .inr (0, [.ref u9, .int (-1), .int 0, .int 0])), (u9, .inl (ka 0, 98304, .inl (fun _ => 0)))]) hP, tk_done⟩⟩ rfl rfl hl.1 rfl (lv_room (Nat.le_of_ble_eq_true rfl)) dB_init_20 ⟨(Nat.le_of_ble_eq_true rfl), (Nat.le_of_ble_eq_true rfl)⟩) hS (fun q _ h => hFc q h) hFc (fun u20 t H1 locs ht hvm hw hB hz1 hk1 hS => ?_)
  have hB1 : va_P (dC, dI) clB [(q16, .inr (2, [.int 0, .int 0]))] H1 := by rw [← ht]; exact hB.1
  obtain ⟨hP, hD⟩ := tk_joinG (ws := [(h, .inr (3, [.ref q5, .null, .null, .int 0])), (q5, .inr (0, [.ref u9, .int (-1), .int 0, .int 0])), (u9, .inl (ka 0, 98304, .inl (fun _ => 0)))]) (wc := [(q16, .inr (2, [.int 0, .int 0]))]) hP hD hk1 hFc hB1 hB.2
  generalize H1 = H at hP hS ⊢
  have hP : va_P (dC, dI) clB [(h, .inr (3, [.ref q5, .null, .null, .int 0])), (q5, .inr (0, [.ref u9, .int (-1), .int 0, .int 0])), (u9, .inl (ka 0, 98304, .inl (fun _ => 0))), (q16, .inr (2, [.int 0, .int 0]))] H := hP
  have hD : va_D A [(h, .inr (3, [.ref q5, .null, .null, .int 0])), (q5, .inr (0, [.ref u9, .int (-1), .int 0, .int 0])), (u9, .inl (ka 0, 98304, .inl (fun _ => 0))), (q16, .inr (2, [.int 0, .int 0]))] := hD
  refine va_putF (D := (dC, dI)) (ci := 3) (v := .ref q16) (ty := (.object "BufferDesk$Log")) (C := RB) (T := TB) (N := 4) hx hb hts (inC inB) tyB tyB_ok nmB hown hK hP hD hS 0 rfl rfl 1 (by decide) (hq _ wi_115) (fun _ h9 => h9) rfl hin rfl (by decide +kernel) rfl rfl (Nat.le_of_ble_eq_true rfl) dB_init_23 (fun H locs hP hD hS => ?_)
  have hP : va_P (dC, dI) clB [(h, .inr (3, [.ref q5, .ref q16, .null, .int 0])), (q5, .inr (0, [.ref u9, .int (-1), .int 0, .int 0])), (u9, .inl (ka 0, 98304, .inl (fun _ => 0))), (q16, .inr (2, [.int 0, .int 0]))] H := hP
  have hD : va_D A [(h, .inr (3, [.ref q5, .ref q16, .null, .int 0])), (q5, .inr (0, [.ref u9, .int (-1), .int 0, .int 0])), (u9, .inl (ka 0, 98304, .inl (fun _ => 0))), (q16, .inr (2, [.int 0, .int 0]))] := hD
  refine lv_aload_n hx hb dB_init_26 rfl (lv_at hl 0 rfl) ?_
  refine lv_bipush (v := 12) hx hb dB_init_27 (by decide) ?_
  refine tk_newq (N' := 12) hx hb hown (hq _ wi_86) hAO hK hP hD hS hA 1 rfl (by decide) (by decide +kernel) (Nat.le_of_ble_eq_true rfl) (Nat.le_of_ble_eq_true rfl) (Nat.le_of_ble_eq_true rfl) dB_init_29 (fun q29 H hP hD hS => ?_)
  have hP : va_P (dC, dI) clB [(h, .inr (3, [.ref q5, .ref q16, .null, .int 0])), (q5, .inr (0, [.ref u9, .int (-1), .int 0, .int 0])), (u9, .inl (ka 0, 98304, .inl (fun _ => 0))), (q16, .inr (2, [.int 0, .int 0])), (q29, .inl (ka 1, 12, .inr (.inr (.inr (.inr (fun _ => none))))))] H := hP
  have hD : va_D A [(h, .inr (3, [.ref q5, .ref q16, .null, .int 0])), (q5, .inr (0, [.ref u9, .int (-1), .int 0, .int 0])), (u9, .inl (ka 0, 98304, .inl (fun _ => 0))), (q16, .inr (2, [.int 0, .int 0])), (q29, .inl (ka 1, 12, .inr (.inr (.inr (.inr (fun _ => none))))))] := hD
  refine va_putF (D := (dC, dI)) (ci := 3) (v := .ref q29) (ty := (.array (.object "BufferDesk$Frame"))) (C := RB) (T := TB) (N := 4) hx hb hts (inC inB) tyB tyB_ok nmB hown hK hP hD hS 0 rfl rfl 2 (by decide) (hq _ wi_116) (fun _ h9 => h9) rfl hin rfl (by decide +kernel) rfl rfl (Nat.le_of_ble_eq_true rfl) dB_init_32 (fun H locs hP hD hS => ?_)
  have hP : va_P (dC, dI) clB [(h, .inr (3, [.ref q5, .ref q16, .ref q29, .int 0])), (q5, .inr (0, [.ref u9, .int (-1), .int 0, .int 0])), (u9, .inl (ka 0, 98304, .inl (fun _ => 0))), (q16, .inr (2, [.int 0, .int 0])), (q29, .inl (ka 1, 12, .inr (.inr (.inr (.inr (fun _ => none))))))] H := hP
  have hD : va_D A [(h, .inr (3, [.ref q5, .ref q16, .ref q29, .int 0])), (q5, .inr (0, [.ref u9, .int (-1), .int 0, .int 0])), (u9, .inl (ka 0, 98304, .inl (fun _ => 0))), (q16, .inr (2, [.int 0, .int 0])), (q29, .inl (ka 1, 12, .inr (.inr (.inr (.inr (fun _ => none))))))] := hD
  refine lv_iconst (v := 0) hx hb dB_init_35 (by decide) ?_
  refine lv_istore_n (lv' := [(1, .int 0), (0, .ref h)]) hx hb dB_init_36 rfl hl (by decide) rfl (fun ls hl => ?_)
  have hP : va_P (dC, dI) clB (bI ka h q5 u9 q16 q29 (fun i => if i < 0 then some 0 else none) ++ ilv ka (fun _ => 0) (fun _ => 0) 0) H := tk_swapP (k := 4) (a := q29) (cA := ka 1) (x' := (12, .inr (.inr (.inr (.inr (fun i => if i < 0 then some 0 else none)))))) hP rfl (tk_cellr (fun j _ => by simp))
  refine tk_loopC 37 (fun x : Nat × (Nat → Nat) × (Nat → Nat) => 4 + 2 * x.1) (fun x : Nat × (Nat → Nat) × (Nat → Nat) => 98322 + 517 * x.1) (fun (n : Nat) (x : Nat × (Nat → Nat) × (Nat → Nat)) (H : Heap) (locs : List Loc) (ls : Array Slot) => x.1 ≤ 12 ∧ n = 12 - x.1 ∧ va_P (dC, dI) clB (bI ka h q5 u9 q16 q29 (fun i => if i < x.1 then some (x.2.1 i) else none) ++ ilv ka x.2.1 x.2.2 x.1) H ∧ va_D A (bI ka h q5 u9 q16 q29 (fun i => if i < x.1 then some (x.2.1 i) else none) ++ ilv ka x.2.1 x.2.2 x.1) ∧ va_S A s.heap H locs ∧ lv_has ls 2 [(0, .ref h), (1, .int (nI x.1))]) ?_ 12 (0, (fun _ => 0), (fun _ => 0)) rfl rfl ⟨by omega, rfl, hP, hD, hS, lv_sub hl [1, 0] rfl⟩
  clear hP hD hS hl ls
  intro n x H locs ls hI ih
  obtain ⟨z, fr, fb⟩ := x
  obtain ⟨hi, hn, hP, hD, hS, hl⟩ := hI
  have hi : z ≤ 12 := hi
  have hn : n = 12 - z := hn
  have hl : lv_has ls 2 [(0, .ref h), (1, .int (nI z))] := hl
  show W _ _ _ _ _ _ _ _ _ _ _ _ (4 + 2 * z) (98322 + 517 * z) _ _
  have hP : va_P (dC, dI) clB (bI ka h q5 u9 q16 q29 (fun i => if i < z then some (fr i) else none) ++ ilv ka fr fb z) H := hP
  have hD : va_D A (bI ka h q5 u9 q16 q29 (fun i => if i < z then some (fr i) else none) ++ ilv ka fr fb z) := hD
  refine lv_iload_n hx hb dB_init_37 rfl (lv_at hl 1 rfl) ?_
  refine lv_bipush (v := 12) hx hb dB_init_38 (by decide) ?_
  refine lv_icmp_ge (tgt := 62) hx hb dB_init_40 (by decide) (fun c_1 => ?_) (fun c_1 => ?_)
  · have h12 : z = 12 := by have := (nI_leI (a := 12) (b := z) (by decide) (by omega)).mp c_1; omega
    subst h12
    refine lv_aload_n hx hb dB_init_62 rfl (lv_at hl 0 rfl) ?_
    refine lv_iconst (v := 0) hx hb dB_init_63 (by decide) ?_
    refine va_put (D := (dC, dI)) (ci := 3) (v := .int 0) (ty := .int) (C := RB) (T := TB) (N := 4) hx hb hts (inC inB) tyB tyB_ok nmB hown hK hP hD hS 0 rfl rfl 3 (by decide) (hq _ wi_117) (fun _ h9 => h9) rfl (by decide +kernel) rfl rfl (Nat.le_of_ble_eq_true rfl) dB_init_64 (fun H locs hP hD hS => ?_)
    have hP : va_P (dC, dI) clB (bI ka h q5 u9 q16 q29 (fun i => some (fr i)) ++ ilv ka fr fb 12) H := tk_swapP (k := 4) (a := q29) (cA := ka 1) (x' := (12, .inr (.inr (.inr (.inr (fun i => some (fr i))))))) hP rfl (tk_cellr (fun j hj => by simp [hj]))
    have hP : va_P (dC, dI) clB (dw0 h q5 u9 q16 q29 fr fb ka) H := bI_dwP hP
    have hD : va_D A (dw0 h q5 u9 q16 q29 fr fb ka) := bI_dwD (f := (fun i => if i < 12 then some (fr i) else none)) hD
    refine W.widen (k := 28) (n := 104526) (Nat.le_of_ble_eq_true rfl) (Nat.le_of_ble_eq_true rfl) ?_
    exact W.vret hx hb hr (fun t ht hW => ⟨⟨(q5, u9, q16, q29, fr, fb), rfl, trivial, by show va_P _ _ _ t.heap; rw [ht]; exact hP, hD⟩, hS.F ht⟩) hS.2.2 dB_init_67
  · have hz : z < 12 := by have := mt (nI_leI (a := 12) (b := z) (by decide) (by omega)).mpr c_1; omega
    refine lv_aload_n hx hb dB_init_43 rfl (lv_at hl 0 rfl) ?_
    refine va_get (D := (dC, dI)) (ci := 3) (v := .ref q29) (C := RB) (T := TB) (N := 4) hx hb hts (inC inB) hown hK hP 0 rfl rfl 2 (by decide) (hq _ wi_116) (fun _ h9 => h9) rfl dB_init_44 ?_
    refine lv_iload_n hx hb dB_init_47 rfl (lv_at hl 1 rfl) ?_
    refine va_new (ci := 1) (fs := [.null, .int 0, .int 0, .int 0, .int 0]) (C := RF) (T := TF) (N := 5) hx hb hts (inC inF) tyF tyF_ok hown (hq _ wi_86) (hq _ wi_88) (hq _ wi_27) hK hP hD hS hA rfl (fun j hj => by rcases (show j = 0 ∨ j = 1 ∨ j = 2 ∨ j = 3 ∨ j = 4 by omega) with rfl | rfl | rfl | rfl | rfl <;> rfl) (show 4 + 2 * z + 1 ≤ 28 by omega) (show 98322 + 517 * z + 5 ≤ 104526 by omega) dB_init_48 (fun q48 H hP hD hS => ?_)
    refine lv_dup hx hb dB_init_51 rfl ?_
    have hFc := tk_freeG (ws := (bI ka h q5 u9 q16 q29 (fun i => if i < z then some (fr i) else none) ++ ilv ka fr fb z)) (wc := [(q48, .inr (1, [.null, .int 0, .int 0, .int 0, .int 0]))]) hD hS hA
    refine va_callv (va_runIN (As := []) (rest := [.ref q48, .int (nI z), .ref q29]) ⟨hx, hb, hml, hown, hts⟩ (c_F_init l dC dI ka _ q48) ⟨va_cnB 0 hts (tw_I wi_91) rfl rfl rfl (hN _ ns_7) (hq _ wi_27) (by decide +kernel) ⟨(Nat.le_of_ble_eq_true rfl), (Nat.le_of_ble_eq_true rfl)⟩, rfl, hq _ wi_90⟩ ⟨fun a U g mk q => ⟨q.1, q.2.1, tk_E.call q.2.2.1, q.2.2.2⟩, fun U hU hW => ⟨rfl, by rw [hU], tk_E.warm hW hE, by rw [hU]; exact tk_lastP (ws := (bI ka h q5 u9 q16 q29 (fun i => if i < z then some (fr i) else none) ++ ilv ka fr fb z)) hP, tk_done⟩⟩ rfl rfl hl.1 rfl (lv_room (Nat.le_of_ble_eq_true rfl)) dB_init_52 ⟨by show 4 + 2 * z + 1 + 1 ≤ _; exact Nat.le_trans (by omega : 4 + 2 * z + 1 + 1 ≤ 28) (Nat.le_of_ble_eq_true rfl), by show 98322 + 517 * z + 5 + 512 ≤ _; exact Nat.le_trans (by omega : 98322 + 517 * z + 5 + 512 ≤ 104526) (Nat.le_of_ble_eq_true rfl)⟩) hS (fun q _ h => hFc q h) hFc (fun u52 t H1 locs ht hvm hw hB hz1 hk1 hS => ?_)
    have hB1 : va_P (dC, dI) clB [(q48, .inr (1, [.ref u52, .int (-1), .int 0, .int 0, .int 0])), (u52, .inl (ka 0, 512, .inl (fun _ => 0)))] H1 := by rw [← ht]; exact hB.1
    obtain ⟨hP, hD⟩ := tk_joinG (ws := (bI ka h q5 u9 q16 q29 (fun i => if i < z then some (fr i) else none) ++ ilv ka fr fb z)) (wc := [(q48, .inr (1, [.null, .int 0, .int 0, .int 0, .int 0]))]) hP hD hk1 hFc hB1 hB.2
    generalize H1 = H at hP hS ⊢
    refine va_astq (n := 12) hx hb hK hP hD hS 4 1 (5 + 2 * z) 1 rfl rfl bI_last rfl (vp_in_nI hz (by decide)) dB_init_55 (fun H locs hP hD hS => ?_)
    rw [nI_clamp (show z < 2 ^ 31 by omega)] at hP hD
    have hP : va_P (dC, dI) clB (bI ka h q5 u9 q16 q29 (fun i => if i < z + 1 then some (va_up fr z q48 i) else none) ++ ilv ka (va_up fr z q48) (va_up fb z u52) (z + 1)) H := by rw [bI_grow, ← List.append_assoc]; exact tk_swapP (k := 4) (a := q29) (cA := ka 1) (x' := (12, .inr (.inr (.inr (.inr (fun i => if i < z + 1 then some (va_up fr z q48 i) else none)))))) hP rfl (tk_cellr (fun j _ => bI_fun j))
    have hD : va_D A (bI ka h q5 u9 q16 q29 (fun i => if i < z + 1 then some (va_up fr z q48 i) else none) ++ ilv ka (va_up fr z q48) (va_up fb z u52) (z + 1)) := by rw [bI_grow, ← List.append_assoc]; refine tk_Dmap ?_ hD; rfl
    refine lv_iinc (v := (nI (z + 1))) (lv' := [(1, .int (nI (z + 1))), (0, .ref h)]) hx hb dB_init_56 hl (k := 1) rfl (nI_succ z).symm (by decide) rfl (fun ls hl => ?_)
    refine lv_goto (tgt := 37) hx hb dB_init_59 (by decide) ?_
    have h9 := ih (11 - z) (z + 1, va_up fr z q48, va_up fb z u52) H locs ls (by omega) ⟨(by show z + 1 ≤ 12; omega), (by show 11 - z = 12 - (z + 1); omega), hP, hD, hS, lv_sub hl [1, 0] rfl⟩
    exact h9
