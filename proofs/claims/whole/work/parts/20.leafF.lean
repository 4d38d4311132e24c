/-- two bytes, the higher first -/
def tb2 (f : Nat → Int32) (n : Nat) : Int32 := (((f n) &&& 255) <<< ((8 : Int32) &&& 31)) ||| ((f (n + 1)) &&& 255)
/-- the place in a page -/
def plB (f : Nat → Int32) : Int32 := (tb2 f 2 <<< ((16 : Int32) &&& 31)) ||| tb2 f 4

set_option maxHeartbeats 4000000 in
set_option maxRecDepth 100000 in
/-- r = if x < 0 then 0 else if 192 ≤ x then 0 else 1 -/
theorem c_B_isPage (l : Launch) (dC : Nat → ClassId) (dI : Nat → Nat → Nat) (ka : Nat → ClassId) (x : Int32) : Met l yB_isPage wB_isPage ({ frames := 0, cells := 0, slots := 0, locals := 0 }) (va_Pc [.int x] (fun U => tk_E dC dI ka U ∧ va_P (dC, dI) clB [] U.heap)) (vp_Si (fun r => r = if x < 0 then 0 else if 192 ≤ x then 0 else 1)) 0 0 (fun _ => False) := by
  refine Met.ofW (cc := cB_isPage) (maxL := 1) (ret := (some .boolean)) (by decide) rfl ?_
  intro p e s m args below meth c s₁ B hml hv
  obtain ⟨rfl, hE, hP⟩ := hv
  have hx := B.exec
  have hb := B.bytes
  have hr := B.returns
  have hts := atoms_spec (ws := wB_isPage) B.pre
  have hq : ∀ w ∈ lwg, w.before _ s = true := fun w h => hts w (List.mem_cons_of_mem _ h)
  have hown : s.vm.findClass RB = some m.cls := findClass_of_methodNamed B.named
  have hlocks := B.notSynchronized
  have hK := hE.1
  have hN := hE.2
  have hP : va_P (dC, dI) clB [] s.heap := hP
  have hl := lv_entry ([.int x]) (n := 1) (Nat.le_of_ble_eq_true rfl)
  rw [lg_entry_eq]
  generalize (lg_sl ([.int x]) ++ List.replicate (1 - (lg_sl ([.int x])).length) Slot.unset).toArray = ls at hl ⊢
  have hl : lv_has ls 1 [(0, .int x)] := hl
  refine lv_iload_n hx hb dB_isPage_0 rfl (lv_at hl 0 rfl) ?_
  refine lv_if_lt (tgt := 15) hx hb dB_isPage_1 (by decide) (fun c_1 => ?_) (fun c_1 => ?_)
  · refine lv_iconst (v := 0) hx hb dB_isPage_15 (by decide) ?_
    exact W.zret (v := 0) (ty := .boolean) hx hb hr rfl (fun t ht hW => ⟨0, rfl, (by simp [c_1]), ht⟩) (fun _ h => by cases h) dB_isPage_16
  · refine lv_iload_n hx hb dB_isPage_4 rfl (lv_at hl 0 rfl) ?_
    refine lv_sipush (v := 192) hx hb dB_isPage_5 (by decide) ?_
    refine lv_icmp_ge (tgt := 15) hx hb dB_isPage_8 (by decide) (fun c_2 => ?_) (fun c_2 => ?_)
    · refine lv_iconst (v := 0) hx hb dB_isPage_15 (by decide) ?_
      exact W.zret (v := 0) (ty := .boolean) hx hb hr rfl (fun t ht hW => ⟨0, rfl, (by simp [c_1, c_2]), ht⟩) (fun _ h => by cases h) dB_isPage_16
    · refine lv_iconst (v := 1) hx hb dB_isPage_11 (by decide) ?_
      refine lv_goto (tgt := 16) hx hb dB_isPage_12 (by decide) ?_
      exact W.zret (v := 1) (ty := .boolean) hx hb hr rfl (fun t ht hW => ⟨1, rfl, (by simp [c_1, c_2]), ht⟩) (fun _ h => by cases h) dB_isPage_16

set_option maxHeartbeats 4000000 in
set_option maxRecDepth 100000 in
/-- r = if x < 0 then 0 else if 12 ≤ x then 0 else 1 -/
theorem c_B_isFrame (l : Launch) (dC : Nat → ClassId) (dI : Nat → Nat → Nat) (ka : Nat → ClassId) (x : Int32) : Met l yB_isFrame wB_isFrame ({ frames := 0, cells := 0, slots := 0, locals := 0 }) (va_Pc [.int x] (fun U => tk_E dC dI ka U ∧ va_P (dC, dI) clB [] U.heap)) (vp_Si (fun r => r = if x < 0 then 0 else if 12 ≤ x then 0 else 1)) 0 0 (fun _ => False) := by
  refine Met.ofW (cc := cB_isFrame) (maxL := 1) (ret := (some .boolean)) (by decide) rfl ?_
  intro p e s m args below meth c s₁ B hml hv
  obtain ⟨rfl, hE, hP⟩ := hv
  have hx := B.exec
  have hb := B.bytes
  have hr := B.returns
  have hts := atoms_spec (ws := wB_isFrame) B.pre
  have hq : ∀ w ∈ lwg, w.before _ s = true := fun w h => hts w (List.mem_cons_of_mem _ h)
  have hown : s.vm.findClass RB = some m.cls := findClass_of_methodNamed B.named
  have hlocks := B.notSynchronized
  have hK := hE.1
  have hN := hE.2
  have hP : va_P (dC, dI) clB [] s.heap := hP
  have hl := lv_entry ([.int x]) (n := 1) (Nat.le_of_ble_eq_true rfl)
  rw [lg_entry_eq]
  generalize (lg_sl ([.int x]) ++ List.replicate (1 - (lg_sl ([.int x])).length) Slot.unset).toArray = ls at hl ⊢
  have hl : lv_has ls 1 [(0, .int x)] := hl
  refine lv_iload_n hx hb dB_isFrame_0 rfl (lv_at hl 0 rfl) ?_
  refine lv_if_lt (tgt := 14) hx hb dB_isFrame_1 (by decide) (fun c_1 => ?_) (fun c_1 => ?_)
  · refine lv_iconst (v := 0) hx hb dB_isFrame_14 (by decide) ?_
    exact W.zret (v := 0) (ty := .boolean) hx hb hr rfl (fun t ht hW => ⟨0, rfl, (by simp [c_1]), ht⟩) (fun _ h => by cases h) dB_isFrame_15
  · refine lv_iload_n hx hb dB_isFrame_4 rfl (lv_at hl 0 rfl) ?_
    refine lv_bipush (v := 12) hx hb dB_isFrame_5 (by decide) ?_
    refine lv_icmp_ge (tgt := 14) hx hb dB_isFrame_7 (by decide) (fun c_2 => ?_) (fun c_2 => ?_)
    · refine lv_iconst (v := 0) hx hb dB_isFrame_14 (by decide) ?_
      exact W.zret (v := 0) (ty := .boolean) hx hb hr rfl (fun t ht hW => ⟨0, rfl, (by simp [c_1, c_2]), ht⟩) (fun _ h => by cases h) dB_isFrame_15
    · refine lv_iconst (v := 1) hx hb dB_isFrame_10 (by decide) ?_
      refine lv_goto (tgt := 15) hx hb dB_isFrame_11 (by decide) ?_
      exact W.zret (v := 1) (ty := .boolean) hx hb hr rfl (fun t ht hW => ⟨1, rfl, (by simp [c_1, c_2]), ht⟩) (fun _ h => by cases h) dB_isFrame_15

set_option maxHeartbeats 4000000 in
set_option maxRecDepth 100000 in
/-- r = if x < 0 then 0 else if 512 ≤ x then 0 else 1 -/
theorem c_B_isByte (l : Launch) (dC : Nat → ClassId) (dI : Nat → Nat → Nat) (ka : Nat → ClassId) (x : Int32) : Met l yB_isByte wB_isByte ({ frames := 0, cells := 0, slots := 0, locals := 0 }) (va_Pc [.int x] (fun U => tk_E dC dI ka U ∧ va_P (dC, dI) clB [] U.heap)) (vp_Si (fun r => r = if x < 0 then 0 else if 512 ≤ x then 0 else 1)) 0 0 (fun _ => False) := by
  refine Met.ofW (cc := cB_isByte) (maxL := 1) (ret := (some .boolean)) (by decide) rfl ?_
  intro p e s m args below meth c s₁ B hml hv
  obtain ⟨rfl, hE, hP⟩ := hv
  have hx := B.exec
  have hb := B.bytes
  have hr := B.returns
  have hts := atoms_spec (ws := wB_isByte) B.pre
  have hq : ∀ w ∈ lwg, w.before _ s = true := fun w h => hts w (List.mem_cons_of_mem _ h)
  have hown : s.vm.findClass RB = some m.cls := findClass_of_methodNamed B.named
  have hlocks := B.notSynchronized
  have hK := hE.1
  have hN := hE.2
  have hP : va_P (dC, dI) clB [] s.heap := hP
  have hl := lv_entry ([.int x]) (n := 1) (Nat.le_of_ble_eq_true rfl)
  rw [lg_entry_eq]
  generalize (lg_sl ([.int x]) ++ List.replicate (1 - (lg_sl ([.int x])).length) Slot.unset).toArray = ls at hl ⊢
  have hl : lv_has ls 1 [(0, .int x)] := hl
  refine lv_iload_n hx hb dB_isByte_0 rfl (lv_at hl 0 rfl) ?_
  refine lv_if_lt (tgt := 15) hx hb dB_isByte_1 (by decide) (fun c_1 => ?_) (fun c_1 => ?_)
  · refine lv_iconst (v := 0) hx hb dB_isByte_15 (by decide) ?_
    exact W.zret (v := 0) (ty := .boolean) hx hb hr rfl (fun t ht hW => ⟨0, rfl, (by simp [c_1]), ht⟩) (fun _ h => by cases h) dB_isByte_16
  · refine lv_iload_n hx hb dB_isByte_4 rfl (lv_at hl 0 rfl) ?_
    refine lv_sipush (v := 512) hx hb dB_isByte_5 (by decide) ?_
    refine lv_icmp_ge (tgt := 15) hx hb dB_isByte_8 (by decide) (fun c_2 => ?_) (fun c_2 => ?_)
    · refine lv_iconst (v := 0) hx hb dB_isByte_15 (by decide) ?_
      exact W.zret (v := 0) (ty := .boolean) hx hb hr rfl (fun t ht hW => ⟨0, rfl, (by simp [c_1, c_2]), ht⟩) (fun _ h => by cases h) dB_isByte_16
    · refine lv_iconst (v := 1) hx hb dB_isByte_11 (by decide) ?_
      refine lv_goto (tgt := 16) hx hb dB_isByte_12 (by decide) ?_
      exact W.zret (v := 1) (ty := .boolean) hx hb hr rfl (fun t ht hW => ⟨1, rfl, (by simp [c_1, c_2]), ht⟩) (fun _ h => by cases h) dB_isByte_16

set_option maxHeartbeats 4000000 in
set_option maxRecDepth 100000 in
theorem c_B_frameBehind (l : Launch) (dC : Nat → ClassId) (dI : Nat → Nat → Nat) (ka : Nat → ClassId) (x : Int32) : Met l yB_frameBehind wB_frameBehind ({ frames := 0, cells := 0, slots := 0, locals := 0 }) (va_Pc [.int x] (fun U => tk_E dC dI ka U ∧ va_P (dC, dI) clB [] U.heap)) (vp_Si (fun r => r = if 12 ≤ x + 1 then 0 else x + 1)) 0 0 (fun _ => False) := by
  refine Met.ofW (cc := cB_frameBehind) (maxL := 1) (ret := (some .int)) (by decide) rfl ?_
  intro p e s m args below meth c s₁ B hml hv
  obtain ⟨rfl, hE, hP⟩ := hv
  have hx := B.exec
  have hb := B.bytes
  have hr := B.returns
  have hts := atoms_spec (ws := wB_frameBehind) B.pre
  have hq : ∀ w ∈ lwg, w.before _ s = true := fun w h => hts w (List.mem_cons_of_mem _ h)
  have hown : s.vm.findClass RB = some m.cls := findClass_of_methodNamed B.named
  have hlocks := B.notSynchronized
  have hK := hE.1
  have hN := hE.2
  have hP : va_P (dC, dI) clB [] s.heap := hP
  have hl := lv_entry ([.int x]) (n := 1) (Nat.le_of_ble_eq_true rfl)
  rw [lg_entry_eq]
  generalize (lg_sl ([.int x]) ++ List.replicate (1 - (lg_sl ([.int x])).length) Slot.unset).toArray = ls at hl ⊢
  have hl : lv_has ls 1 [(0, .int x)] := hl
  refine lv_iload_n hx hb dB_frameBehind_0 rfl (lv_at hl 0 rfl) ?_
  refine lv_iconst (v := 1) hx hb dB_frameBehind_1 (by decide) ?_
  refine lv_iadd hx hb dB_frameBehind_2 ?_
  refine lv_bipush (v := 12) hx hb dB_frameBehind_3 (by decide) ?_
  refine lv_icmp_ge (tgt := 14) hx hb dB_frameBehind_5 (by decide) (fun c_1 => ?_) (fun c_1 => ?_)
  · refine lv_iconst (v := 0) hx hb dB_frameBehind_14 (by decide) ?_
    exact W.iret (v := 0) hx hb hr (fun t ht hW => ⟨0, rfl, (by simp [c_1]), ht⟩) (fun _ h => by cases h) dB_frameBehind_15
  · refine lv_iload_n hx hb dB_frameBehind_8 rfl (lv_at hl 0 rfl) ?_
    refine lv_iconst (v := 1) hx hb dB_frameBehind_9 (by decide) ?_
    refine lv_iadd hx hb dB_frameBehind_10 ?_
    refine lv_goto (tgt := 15) hx hb dB_frameBehind_11 (by decide) ?_
    exact W.iret (v := (x + 1)) hx hb hr (fun t ht hW => ⟨(x + 1), rfl, (by simp [c_1]), ht⟩) (fun _ h => by cases h) dB_frameBehind_15

set_option maxHeartbeats 4000000 in
set_option maxRecDepth 100000 in
theorem c_B_twoBytes (l : Launch) (dC : Nat → ClassId) (dI : Nat → Nat → Nat) (ka : Nat → ClassId) (b N : Nat) (f : Nat → Int32) (x : Int32) (n : Nat) (ex : x = nI n) (hn : n + 1 < N) (hM : N < 2 ^ 31) : Met l yB_twoBytes wB_twoBytes ({ frames := 0, cells := 0, slots := 0, locals := 0 }) (va_Pc [.ref b, .int x] (fun U => tk_E dC dI ka U ∧ va_P (dC, dI) clB [(b, .inl (ka 0, N, .inl f))] U.heap)) (vp_Si (fun r => r = tb2 f n)) 0 0 (fun _ => False) := by
  refine Met.ofW (cc := cB_twoBytes) (maxL := 2) (ret := (some .int)) (by decide) rfl ?_
  intro p e s m args below meth c s₁ B hml hv
  obtain ⟨rfl, hE, hP⟩ := hv
  have hx := B.exec
  have hb := B.bytes
  have hr := B.returns
  have hts := atoms_spec (ws := wB_twoBytes) B.pre
  have hq : ∀ w ∈ lwg, w.before _ s = true := fun w h => hts w (List.mem_cons_of_mem _ h)
  have hown : s.vm.findClass RB = some m.cls := findClass_of_methodNamed B.named
  have hlocks := B.notSynchronized
  have hK := hE.1
  have hN := hE.2
  have hP : va_P (dC, dI) clB [(b, .inl (ka 0, N, .inl f))] s.heap := hP
  have hl := lv_entry ([.ref b, .int x]) (n := 2) (Nat.le_of_ble_eq_true rfl)
  rw [lg_entry_eq]
  generalize (lg_sl ([.ref b, .int x]) ++ List.replicate (2 - (lg_sl ([.ref b, .int x])).length) Slot.unset).toArray = ls at hl ⊢
  have hl : lv_has ls 2 [(0, .ref b), (1, .int x)] := hl
  refine lv_aload_n hx hb dB_twoBytes_0 rfl (lv_at hl 0 rfl) ?_
  refine lv_iload_n hx hb dB_twoBytes_1 rfl (lv_at hl 1 rfl) ?_
  refine tk_bald (n := n) hx hb hK hP 0 0 rfl rfl ex (by omega) (by omega) dB_twoBytes_2 ?_
  refine lv_sipush (v := 255) hx hb dB_twoBytes_3 (by decide) ?_
  refine lv_iand hx hb dB_twoBytes_6 ?_
  refine lv_bipush (v := 8) hx hb dB_twoBytes_7 (by decide) ?_
  refine lv_ishl hx hb dB_twoBytes_9 ?_
  refine lv_aload_n hx hb dB_twoBytes_10 rfl (lv_at hl 0 rfl) ?_
  refine lv_iload_n hx hb dB_twoBytes_11 rfl (lv_at hl 1 rfl) ?_
  refine lv_iconst (v := 1) hx hb dB_twoBytes_12 (by decide) ?_
  refine lv_iadd hx hb dB_twoBytes_13 ?_
  refine tk_bald (n := n + 1) hx hb hK hP 0 0 rfl rfl (by rw [ex]; exact nI_1 n) hn (by omega) dB_twoBytes_14 ?_
  refine lv_sipush (v := 255) hx hb dB_twoBytes_15 (by decide) ?_
  refine lv_iand hx hb dB_twoBytes_18 ?_
  refine lv_ior hx hb dB_twoBytes_19 ?_
  exact W.iret (v := ((((f n) &&& 255) <<< ((8 : Int32) &&& 31)) ||| ((f (n + 1)) &&& 255))) hx hb hr (fun t ht hW => ⟨((((f n) &&& 255) <<< ((8 : Int32) &&& 31)) ||| ((f (n + 1)) &&& 255)), rfl, rfl, ht⟩) (fun _ h => by cases h) dB_twoBytes_20

set_option maxHeartbeats 4000000 in
set_option maxRecDepth 100000 in
theorem c_F_isEmpty (l : Launch) (dC : Nat → ClassId) (dI : Nat → Nat → Nat) (ka : Nat → ClassId) (a b : Nat) (pg pn us di : Int32) : Met l yF_isEmpty wF_isEmpty ({ frames := 0, cells := 0, slots := 0, locals := 0 }) (va_Pc [.ref a] (fun U => tk_E dC dI ka U ∧ va_P (dC, dI) clB [(a, .inr (1, [.ref b, .int pg, .int pn, .int us, .int di]))] U.heap)) (vp_Si (fun r => r = if pg = -1 then 1 else 0)) 0 0 (fun _ => False) := by
  refine Met.ofW (cc := cF_isEmpty) (maxL := 1) (ret := (some .boolean)) (by decide) rfl ?_
  intro p e s m args below meth c s₁ B hml hv
  obtain ⟨rfl, hE, hP⟩ := hv
  have hx := B.exec
  have hb := B.bytes
  have hr := B.returns
  have hts := atoms_spec (ws := wF_isEmpty) B.pre
  have hq : ∀ w ∈ lwg, w.before _ s = true := fun w h => hts w (List.mem_cons_of_mem _ h)
  have hown : s.vm.findClass RF = some m.cls := findClass_of_methodNamed B.named
  have hlocks := B.notSynchronized
  have hK := hE.1
  have hN := hE.2
  have hP : va_P (dC, dI) clB [(a, .inr (1, [.ref b, .int pg, .int pn, .int us, .int di]))] s.heap := hP
  have hl := lv_entry ([.ref a]) (n := 1) (Nat.le_of_ble_eq_true rfl)
  rw [lg_entry_eq]
  generalize (lg_sl ([.ref a]) ++ List.replicate (1 - (lg_sl ([.ref a])).length) Slot.unset).toArray = ls at hl ⊢
  have hl : lv_has ls 1 [(0, .ref a)] := hl
  refine lv_aload_n hx hb dF_isEmpty_0 rfl (lv_at hl 0 rfl) ?_
  refine va_get (D := (dC, dI)) (ci := 1) (v := .int pg) (C := RF) (T := TF) (N := 5) hx hb hts (inC inF) hown hK hP 0 rfl rfl 1 (by decide) (hq _ wi_95) (fun _ h9 => h9) rfl dF_isEmpty_1 ?_
  refine lv_iconst (v := (-1)) hx hb dF_isEmpty_4 (by decide) ?_
  refine lv_icmp_ne (tgt := 12) hx hb dF_isEmpty_5 (by decide) (fun c_1 => ?_) (fun c_1 => ?_)
  · refine lv_iconst (v := 0) hx hb dF_isEmpty_12 (by decide) ?_
    exact W.zret (v := 0) (ty := .boolean) hx hb hr rfl (fun t ht hW => ⟨0, rfl, (by simp [c_1]), ht⟩) (fun _ h => by cases h) dF_isEmpty_13
  · refine lv_iconst (v := 1) hx hb dF_isEmpty_8 (by decide) ?_
    refine lv_goto (tgt := 13) hx hb dF_isEmpty_9 (by decide) ?_
    exact W.zret (v := 1) (ty := .boolean) hx hb hr rfl (fun t ht hW => ⟨1, rfl, (by simp [c_1]), ht⟩) (fun _ h => by cases h) dF_isEmpty_13

set_option maxHeartbeats 4000000 in
set_option maxRecDepth 100000 in
theorem c_F_hasPins (l : Launch) (dC : Nat → ClassId) (dI : Nat → Nat → Nat) (ka : Nat → ClassId) (a b : Nat) (pg pn us di : Int32) : Met l yF_hasPins wF_hasPins ({ frames := 0, cells := 0, slots := 0, locals := 0 }) (va_Pc [.ref a] (fun U => tk_E dC dI ka U ∧ va_P (dC, dI) clB [(a, .inr (1, [.ref b, .int pg, .int pn, .int us, .int di]))] U.heap)) (vp_Si (fun r => r = if pn ≤ 0 then 0 else 1)) 0 0 (fun _ => False) := by
  refine Met.ofW (cc := cF_hasPins) (maxL := 1) (ret := (some .boolean)) (by decide) rfl ?_
  intro p e s m args below meth c s₁ B hml hv
  obtain ⟨rfl, hE, hP⟩ := hv
  have hx := B.exec
  have hb := B.bytes
  have hr := B.returns
  have hts := atoms_spec (ws := wF_hasPins) B.pre
  have hq : ∀ w ∈ lwg, w.before _ s = true := fun w h => hts w (List.mem_cons_of_mem _ h)
  have hown : s.vm.findClass RF = some m.cls := findClass_of_methodNamed B.named
  have hlocks := B.notSynchronized
  have hK := hE.1
  have hN := hE.2
  have hP : va_P (dC, dI) clB [(a, .inr (1, [.ref b, .int pg, .int pn, .int us, .int di]))] s.heap := hP
  have hl := lv_entry ([.ref a]) (n := 1) (Nat.le_of_ble_eq_true rfl)
  rw [lg_entry_eq]
  generalize (lg_sl ([.ref a]) ++ List.replicate (1 - (lg_sl ([.ref a])).length) Slot.unset).toArray = ls at hl ⊢
  have hl : lv_has ls 1 [(0, .ref a)] := hl
  refine lv_aload_n hx hb dF_hasPins_0 rfl (lv_at hl 0 rfl) ?_
  refine va_get (D := (dC, dI)) (ci := 1) (v := .int pn) (C := RF) (T := TF) (N := 5) hx hb hts (inC inF) hown hK hP 0 rfl rfl 2 (by decide) (hq _ wi_97) (fun _ h9 => h9) rfl dF_hasPins_1 ?_
  refine lv_if_le (tgt := 11) hx hb dF_hasPins_4 (by decide) (fun c_1 => ?_) (fun c_1 => ?_)
  · refine lv_iconst (v := 0) hx hb dF_hasPins_11 (by decide) ?_
    exact W.zret (v := 0) (ty := .boolean) hx hb hr rfl (fun t ht hW => ⟨0, rfl, (by simp [c_1]), ht⟩) (fun _ h => by cases h) dF_hasPins_12
  · refine lv_iconst (v := 1) hx hb dF_hasPins_7 (by decide) ?_
    refine lv_goto (tgt := 12) hx hb dF_hasPins_8 (by decide) ?_
    exact W.zret (v := 1) (ty := .boolean) hx hb hr rfl (fun t ht hW => ⟨1, rfl, (by simp [c_1]), ht⟩) (fun _ h => by cases h) dF_hasPins_12

set_option maxHeartbeats 4000000 in
set_option maxRecDepth 100000 in
theorem c_F_canBeTaken (l : Launch) (dC : Nat → ClassId) (dI : Nat → Nat → Nat) (ka : Nat → ClassId) (a b : Nat) (pg pn us di : Int32) : Met l yF_canBeTaken wF_canBeTaken ({ frames := 0, cells := 0, slots := 0, locals := 0 }) (va_Pc [.ref a] (fun U => tk_E dC dI ka U ∧ va_P (dC, dI) clB [(a, .inr (1, [.ref b, .int pg, .int pn, .int us, .int di]))] U.heap)) (vp_Si (fun r => r = if pn = 0 then (if us = 0 then 1 else 0) else 0)) 0 0 (fun _ => False) := by
  refine Met.ofW (cc := cF_canBeTaken) (maxL := 1) (ret := (some .boolean)) (by decide) rfl ?_
  intro p e s m args below meth c s₁ B hml hv
  obtain ⟨rfl, hE, hP⟩ := hv
  have hx := B.exec
  have hb := B.bytes
  have hr := B.returns
  have hts := atoms_spec (ws := wF_canBeTaken) B.pre
  have hq : ∀ w ∈ lwg, w.before _ s = true := fun w h => hts w (List.mem_cons_of_mem _ h)
  have hown : s.vm.findClass RF = some m.cls := findClass_of_methodNamed B.named
  have hlocks := B.notSynchronized
  have hK := hE.1
  have hN := hE.2
  have hP : va_P (dC, dI) clB [(a, .inr (1, [.ref b, .int pg, .int pn, .int us, .int di]))] s.heap := hP
  have hl := lv_entry ([.ref a]) (n := 1) (Nat.le_of_ble_eq_true rfl)
  rw [lg_entry_eq]
  generalize (lg_sl ([.ref a]) ++ List.replicate (1 - (lg_sl ([.ref a])).length) Slot.unset).toArray = ls at hl ⊢
  have hl : lv_has ls 1 [(0, .ref a)] := hl
  refine lv_aload_n hx hb dF_canBeTaken_0 rfl (lv_at hl 0 rfl) ?_
  refine va_get (D := (dC, dI)) (ci := 1) (v := .int pn) (C := RF) (T := TF) (N := 5) hx hb hts (inC inF) hown hK hP 0 rfl rfl 2 (by decide) (hq _ wi_97) (fun _ h9 => h9) rfl dF_canBeTaken_1 ?_
  refine lv_if_ne (tgt := 18) hx hb dF_canBeTaken_4 (by decide) (fun c_1 => ?_) (fun c_1 => ?_)
  · refine lv_iconst (v := 0) hx hb dF_canBeTaken_18 (by decide) ?_
    exact W.zret (v := 0) (ty := .boolean) hx hb hr rfl (fun t ht hW => ⟨0, rfl, (by simp [c_1]), ht⟩) (fun _ h => by cases h) dF_canBeTaken_19
  · refine lv_aload_n hx hb dF_canBeTaken_7 rfl (lv_at hl 0 rfl) ?_
    refine va_get (D := (dC, dI)) (ci := 1) (v := .int us) (C := RF) (T := TF) (N := 5) hx hb hts (inC inF) hown hK hP 0 rfl rfl 3 (by decide) (hq _ wi_99) (fun _ h9 => h9) rfl dF_canBeTaken_8 ?_
    refine lv_if_ne (tgt := 18) hx hb dF_canBeTaken_11 (by decide) (fun c_2 => ?_) (fun c_2 => ?_)
    · refine lv_iconst (v := 0) hx hb dF_canBeTaken_18 (by decide) ?_
      exact W.zret (v := 0) (ty := .boolean) hx hb hr rfl (fun t ht hW => ⟨0, rfl, (by simp [c_1, c_2]), ht⟩) (fun _ h => by cases h) dF_canBeTaken_19
    · refine lv_iconst (v := 1) hx hb dF_canBeTaken_14 (by decide) ?_
      refine lv_goto (tgt := 19) hx hb dF_canBeTaken_15 (by decide) ?_
      exact W.zret (v := 1) (ty := .boolean) hx hb hr rfl (fun t ht hW => ⟨1, rfl, (by simp [c_1, c_2]), ht⟩) (fun _ h => by cases h) dF_canBeTaken_19

set_option maxHeartbeats 4000000 in
set_option maxRecDepth 100000 in
theorem c_F_addPin (l : Launch) (dC : Nat → ClassId) (dI : Nat → Nat → Nat) (ka : Nat → ClassId) (sz : Nat) (a b : Nat) (pg pn us di : Int32) : Met l yF_addPin wF_addPin ({ frames := 1, cells := 0, slots := 0, locals := 14 }) (va_Pc [.ref a] (fun U => U.heap.size = sz ∧ tk_E dC dI ka U ∧ va_P (dC, dI) clB [(a, .inr (1, [.ref b, .int pg, .int pn, .int us, .int di]))] U.heap ∧ va_D (fun _ => True) [(a, .inr (1, [.ref b, .int pg, .int pn, .int us, .int di]))])) (va_Qv (fun _ : Unit => True) (fun _ t => va_P (dC, dI) clB [(a, .inr (1, [.ref b, .int pg, .int (pn + 1), .int (if 3 < us + 1 then 3 else us + 1), .int di]))] t.heap) (va_A [(a, .inr (1, [.ref b, .int pg, .int pn, .int us, .int di]))] sz)) 0 0 (va_A [(a, .inr (1, [.ref b, .int pg, .int pn, .int us, .int di]))] sz) := by
  refine Met.ofW (cc := cF_addPin) (maxL := 1) (ret := none) (by decide) rfl ?_
  intro p e s m args below meth c s₁ B hml hv
  obtain ⟨rfl, hsz, hE, hP, hD0⟩ := hv
  have hx := B.exec
  have hb := B.bytes
  have hr := B.returns
  have hts := atoms_spec (ws := wF_addPin) B.pre
  have hq : ∀ w ∈ lwg, w.before _ s = true := fun w h => hts w (List.mem_cons_of_mem _ h)
  have hown : s.vm.findClass RF = some m.cls := findClass_of_methodNamed B.named
  have hlocks := B.notSynchronized
  have hK := hE.1
  have hN := hE.2
  subst hsz
  have hD := hD0.self (sz := s.heap.size)
  generalize hAe : va_A [(a, .inr (1, [.ref b, .int pg, .int pn, .int us, .int di]))] s.heap.size = A at hD ⊢
  have hA : ∀ q : Nat, s.heap.size ≤ q → A q := fun q h => by rw [← hAe]; exact Or.inr h
  have hS : va_S A s.heap s.heap [] := va_S.rf
  have hP : va_P (dC, dI) clB [(a, .inr (1, [.ref b, .int pg, .int pn, .int us, .int di]))] s.heap := hP
  have hl := lv_entry ([.ref a]) (n := 1) (Nat.le_of_ble_eq_true rfl)
  rw [lg_entry_eq]
  generalize (lg_sl ([.ref a]) ++ List.replicate (1 - (lg_sl ([.ref a])).length) Slot.unset).toArray = ls at hl ⊢
  have hl : lv_has ls 1 [(0, .ref a)] := hl
  refine lv_aload_n hx hb dF_addPin_0 rfl (lv_at hl 0 rfl) ?_
  refine lv_dup hx hb dF_addPin_1 rfl ?_
  refine va_get (D := (dC, dI)) (ci := 1) (v := .int pn) (C := RF) (T := TF) (N := 5) hx hb hts (inC inF) hown hK hP 0 rfl rfl 2 (by decide) (hq _ wi_97) (fun _ h9 => h9) rfl dF_addPin_2 ?_
  refine lv_iconst (v := 1) hx hb dF_addPin_5 (by decide) ?_
  refine lv_iadd hx hb dF_addPin_6 ?_
  refine va_put (D := (dC, dI)) (ci := 1) (v := .int (pn + 1)) (ty := .int) (C := RF) (T := TF) (N := 5) hx hb hts (inC inF) tyF tyF_ok nmF hown hK hP hD hS 0 rfl rfl 2 (by decide) (hq _ wi_97) (fun _ h9 => h9) rfl (by decide +kernel) rfl rfl (Nat.le_of_ble_eq_true rfl) dF_addPin_7 (fun H locs hP hD hS => ?_)
  have hP : va_P (dC, dI) clB [(a, .inr (1, [.ref b, .int pg, .int (pn + 1), .int us, .int di]))] H := hP
  have hD : va_D A [(a, .inr (1, [.ref b, .int pg, .int (pn + 1), .int us, .int di]))] := hD
  refine lv_aload_n hx hb dF_addPin_10 rfl (lv_at hl 0 rfl) ?_
  refine lv_aload_n hx hb dF_addPin_11 rfl (lv_at hl 0 rfl) ?_
  refine va_get (D := (dC, dI)) (ci := 1) (v := .int us) (C := RF) (T := TF) (N := 5) hx hb hts (inC inF) hown hK hP 0 rfl rfl 3 (by decide) (hq _ wi_99) (fun _ h9 => h9) rfl dF_addPin_12 ?_
  refine lv_iconst (v := 1) hx hb dF_addPin_15 (by decide) ?_
  refine lv_iadd hx hb dF_addPin_16 ?_
  refine lv_iconst (v := 3) hx hb dF_addPin_17 (by decide) ?_
  refine va_mmin hx hb (hml.trans hl.1.symm) hown (hq _ wi_299) (hq _ wi_300) (hq _ wi_33) (hq _ wi_301) (Nat.le_of_ble_eq_true rfl) (Nat.le_of_ble_eq_true rfl) (Nat.zero_le _) (Nat.zero_le _) dF_addPin_18 ?_
  refine va_put (D := (dC, dI)) (ci := 1) (v := .int (if 3 < (us + 1) then 3 else (us + 1))) (ty := .int) (C := RF) (T := TF) (N := 5) hx hb hts (inC inF) tyF tyF_ok nmF hown hK hP hD hS 0 rfl rfl 3 (by decide) (hq _ wi_99) (fun _ h9 => h9) rfl (by decide +kernel) rfl rfl (Nat.le_of_ble_eq_true rfl) dF_addPin_21 (fun H locs hP hD hS => ?_)
  have hP : va_P (dC, dI) clB [(a, .inr (1, [.ref b, .int pg, .int (pn + 1), .int (if 3 < (us + 1) then 3 else (us + 1)), .int di]))] H := hP
  have hD : va_D A [(a, .inr (1, [.ref b, .int pg, .int (pn + 1), .int (if 3 < (us + 1) then 3 else (us + 1)), .int di]))] := hD
  exact W.vret hx hb hr (fun t ht hW => ⟨⟨(), rfl, trivial, by show va_P _ _ _ t.heap; rw [ht]; exact hP⟩, hS.F ht⟩) hS.2.2 dF_addPin_24

set_option maxHeartbeats 4000000 in
set_option maxRecDepth 100000 in
theorem c_F_dropPin (l : Launch) (dC : Nat → ClassId) (dI : Nat → Nat → Nat) (ka : Nat → ClassId) (sz : Nat) (a b : Nat) (pg pn us di : Int32) : Met l yF_dropPin wF_dropPin ({ frames := 0, cells := 0, slots := 0, locals := 0 }) (va_Pc [.ref a] (fun U => U.heap.size = sz ∧ tk_E dC dI ka U ∧ va_P (dC, dI) clB [(a, .inr (1, [.ref b, .int pg, .int pn, .int us, .int di]))] U.heap ∧ va_D (fun _ => True) [(a, .inr (1, [.ref b, .int pg, .int pn, .int us, .int di]))])) (va_Qv (fun _ : Unit => True) (fun _ t => va_P (dC, dI) clB [(a, .inr (1, [.ref b, .int pg, .int (pn - 1), .int us, .int di]))] t.heap) (va_A [(a, .inr (1, [.ref b, .int pg, .int pn, .int us, .int di]))] sz)) 0 0 (va_A [(a, .inr (1, [.ref b, .int pg, .int pn, .int us, .int di]))] sz) := by
  refine Met.ofW (cc := cF_dropPin) (maxL := 1) (ret := none) (by decide) rfl ?_
  intro p e s m args below meth c s₁ B hml hv
  obtain ⟨rfl, hsz, hE, hP, hD0⟩ := hv
  have hx := B.exec
  have hb := B.bytes
  have hr := B.returns
  have hts := atoms_spec (ws := wF_dropPin) B.pre
  have hq : ∀ w ∈ lwg, w.before _ s = true := fun w h => hts w (List.mem_cons_of_mem _ h)
  have hown : s.vm.findClass RF = some m.cls := findClass_of_methodNamed B.named
  have hlocks := B.notSynchronized
  have hK := hE.1
  have hN := hE.2
  subst hsz
  have hD := hD0.self (sz := s.heap.size)
  generalize hAe : va_A [(a, .inr (1, [.ref b, .int pg, .int pn, .int us, .int di]))] s.heap.size = A at hD ⊢
  have hA : ∀ q : Nat, s.heap.size ≤ q → A q := fun q h => by rw [← hAe]; exact Or.inr h
  have hS : va_S A s.heap s.heap [] := va_S.rf
  have hP : va_P (dC, dI) clB [(a, .inr (1, [.ref b, .int pg, .int pn, .int us, .int di]))] s.heap := hP
  have hl := lv_entry ([.ref a]) (n := 1) (Nat.le_of_ble_eq_true rfl)
  rw [lg_entry_eq]
  generalize (lg_sl ([.ref a]) ++ List.replicate (1 - (lg_sl ([.ref a])).length) Slot.unset).toArray = ls at hl ⊢
  have hl : lv_has ls 1 [(0, .ref a)] := hl
  refine lv_aload_n hx hb dF_dropPin_0 rfl (lv_at hl 0 rfl) ?_
  refine lv_dup hx hb dF_dropPin_1 rfl ?_
  refine va_get (D := (dC, dI)) (ci := 1) (v := .int pn) (C := RF) (T := TF) (N := 5) hx hb hts (inC inF) hown hK hP 0 rfl rfl 2 (by decide) (hq _ wi_97) (fun _ h9 => h9) rfl dF_dropPin_2 ?_
  refine lv_iconst (v := 1) hx hb dF_dropPin_5 (by decide) ?_
  refine lv_isub hx hb dF_dropPin_6 ?_
  refine va_put (D := (dC, dI)) (ci := 1) (v := .int (pn - 1)) (ty := .int) (C := RF) (T := TF) (N := 5) hx hb hts (inC inF) tyF tyF_ok nmF hown hK hP hD hS 0 rfl rfl 2 (by decide) (hq _ wi_97) (fun _ h9 => h9) rfl (by decide +kernel) rfl rfl (Nat.le_of_ble_eq_true rfl) dF_dropPin_7 (fun H locs hP hD hS => ?_)
  have hP : va_P (dC, dI) clB [(a, .inr (1, [.ref b, .int pg, .int (pn - 1), .int us, .int di]))] H := hP
  have hD : va_D A [(a, .inr (1, [.ref b, .int pg, .int (pn - 1), .int us, .int di]))] := hD
  exact W.vret hx hb hr (fun t ht hW => ⟨⟨(), rfl, trivial, by show va_P _ _ _ t.heap; rw [ht]; exact hP⟩, hS.F ht⟩) hS.2.2 dF_dropPin_10

set_option maxHeartbeats 4000000 in
set_option maxRecDepth 100000 in
theorem c_F_passBy (l : Launch) (dC : Nat → ClassId) (dI : Nat → Nat → Nat) (ka : Nat → ClassId) (sz : Nat) (a b : Nat) (pg pn us di : Int32) : Met l yF_passBy wF_passBy ({ frames := 0, cells := 0, slots := 0, locals := 0 }) (va_Pc [.ref a] (fun U => U.heap.size = sz ∧ tk_E dC dI ka U ∧ va_P (dC, dI) clB [(a, .inr (1, [.ref b, .int pg, .int pn, .int us, .int di]))] U.heap ∧ va_D (fun _ => True) [(a, .inr (1, [.ref b, .int pg, .int pn, .int us, .int di]))])) (va_Qv (fun _ : Unit => True) (fun _ t => va_P (dC, dI) clB [(a, .inr (1, [.ref b, .int pg, .int pn, .int (if pn = 0 then (if us ≤ 0 then us else us - 1) else us), .int di]))] t.heap) (va_A [(a, .inr (1, [.ref b, .int pg, .int pn, .int us, .int di]))] sz)) 0 0 (va_A [(a, .inr (1, [.ref b, .int pg, .int pn, .int us, .int di]))] sz) := by
  refine Met.ofW (cc := cF_passBy) (maxL := 1) (ret := none) (by decide) rfl ?_
  intro p e s m args below meth c s₁ B hml hv
  obtain ⟨rfl, hsz, hE, hP, hD0⟩ := hv
  have hx := B.exec
  have hb := B.bytes
  have hr := B.returns
  have hts := atoms_spec (ws := wF_passBy) B.pre
  have hq : ∀ w ∈ lwg, w.before _ s = true := fun w h => hts w (List.mem_cons_of_mem _ h)
  have hown : s.vm.findClass RF = some m.cls := findClass_of_methodNamed B.named
  have hlocks := B.notSynchronized
  have hK := hE.1
  have hN := hE.2
  subst hsz
  have hD := hD0.self (sz := s.heap.size)
  generalize hAe : va_A [(a, .inr (1, [.ref b, .int pg, .int pn, .int us, .int di]))] s.heap.size = A at hD ⊢
  have hA : ∀ q : Nat, s.heap.size ≤ q → A q := fun q h => by rw [← hAe]; exact Or.inr h
  have hS : va_S A s.heap s.heap [] := va_S.rf
  have hP : va_P (dC, dI) clB [(a, .inr (1, [.ref b, .int pg, .int pn, .int us, .int di]))] s.heap := hP
  have hl := lv_entry ([.ref a]) (n := 1) (Nat.le_of_ble_eq_true rfl)
  rw [lg_entry_eq]
  generalize (lg_sl ([.ref a]) ++ List.replicate (1 - (lg_sl ([.ref a])).length) Slot.unset).toArray = ls at hl ⊢
  have hl : lv_has ls 1 [(0, .ref a)] := hl
  refine lv_aload_n hx hb dF_passBy_0 rfl (lv_at hl 0 rfl) ?_
  refine va_get (D := (dC, dI)) (ci := 1) (v := .int pn) (C := RF) (T := TF) (N := 5) hx hb hts (inC inF) hown hK hP 0 rfl rfl 2 (by decide) (hq _ wi_97) (fun _ h9 => h9) rfl dF_passBy_1 ?_
  refine lv_if_ne (tgt := 24) hx hb dF_passBy_4 (by decide) (fun c_1 => ?_) (fun c_1 => ?_)
  · exact W.vret hx hb hr (fun t ht hW => ⟨⟨(), rfl, trivial, by show va_P _ _ _ t.heap; rw [ht]; exact (by simpa [c_1] using hP)⟩, hS.F ht⟩) hS.2.2 dF_passBy_24
  · refine lv_aload_n hx hb dF_passBy_7 rfl (lv_at hl 0 rfl) ?_
    refine va_get (D := (dC, dI)) (ci := 1) (v := .int us) (C := RF) (T := TF) (N := 5) hx hb hts (inC inF) hown hK hP 0 rfl rfl 3 (by decide) (hq _ wi_99) (fun _ h9 => h9) rfl dF_passBy_8 ?_
    refine lv_if_le (tgt := 24) hx hb dF_passBy_11 (by decide) (fun c_2 => ?_) (fun c_2 => ?_)
    · exact W.vret hx hb hr (fun t ht hW => ⟨⟨(), rfl, trivial, by show va_P _ _ _ t.heap; rw [ht]; exact (by simpa [c_1, c_2] using hP)⟩, hS.F ht⟩) hS.2.2 dF_passBy_24
    · refine lv_aload_n hx hb dF_passBy_14 rfl (lv_at hl 0 rfl) ?_
      refine lv_dup hx hb dF_passBy_15 rfl ?_
      refine va_get (D := (dC, dI)) (ci := 1) (v := .int us) (C := RF) (T := TF) (N := 5) hx hb hts (inC inF) hown hK hP 0 rfl rfl 3 (by decide) (hq _ wi_99) (fun _ h9 => h9) rfl dF_passBy_16 ?_
      refine lv_iconst (v := 1) hx hb dF_passBy_19 (by decide) ?_
      refine lv_isub hx hb dF_passBy_20 ?_
      refine va_put (D := (dC, dI)) (ci := 1) (v := .int (us - 1)) (ty := .int) (C := RF) (T := TF) (N := 5) hx hb hts (inC inF) tyF tyF_ok nmF hown hK hP hD hS 0 rfl rfl 3 (by decide) (hq _ wi_99) (fun _ h9 => h9) rfl (by decide +kernel) rfl rfl (Nat.le_of_ble_eq_true rfl) dF_passBy_21 (fun H locs hP hD hS => ?_)
      have hP : va_P (dC, dI) clB [(a, .inr (1, [.ref b, .int pg, .int pn, .int (us - 1), .int di]))] H := hP
      have hD : va_D A [(a, .inr (1, [.ref b, .int pg, .int pn, .int (us - 1), .int di]))] := hD
      exact W.vret hx hb hr (fun t ht hW => ⟨⟨(), rfl, trivial, by show va_P _ _ _ t.heap; rw [ht]; exact (by simpa [c_1, c_2] using hP)⟩, hS.F ht⟩) hS.2.2 dF_passBy_24

set_option maxHeartbeats 4000000 in
set_option maxRecDepth 100000 in
theorem c_F_takePage (l : Launch) (dC : Nat → ClassId) (dI : Nat → Nat → Nat) (ka : Nat → ClassId) (sz : Nat) (a b : Nat) (pg pn us di : Int32) (x : Int32) : Met l yF_takePage wF_takePage ({ frames := 0, cells := 0, slots := 0, locals := 0 }) (va_Pc [.ref a, .int x] (fun U => U.heap.size = sz ∧ tk_E dC dI ka U ∧ va_P (dC, dI) clB [(a, .inr (1, [.ref b, .int pg, .int pn, .int us, .int di]))] U.heap ∧ va_D (fun _ => True) [(a, .inr (1, [.ref b, .int pg, .int pn, .int us, .int di]))])) (va_Qv (fun _ : Unit => True) (fun _ t => va_P (dC, dI) clB [(a, .inr (1, [.ref b, .int x, .int 1, .int 1, .int 0]))] t.heap) (va_A [(a, .inr (1, [.ref b, .int pg, .int pn, .int us, .int di]))] sz)) 0 0 (va_A [(a, .inr (1, [.ref b, .int pg, .int pn, .int us, .int di]))] sz) := by
  refine Met.ofW (cc := cF_takePage) (maxL := 2) (ret := none) (by decide) rfl ?_
  intro p e s m args below meth c s₁ B hml hv
  obtain ⟨rfl, hsz, hE, hP, hD0⟩ := hv
  have hx := B.exec
  have hb := B.bytes
  have hr := B.returns
  have hts := atoms_spec (ws := wF_takePage) B.pre
  have hq : ∀ w ∈ lwg, w.before _ s = true := fun w h => hts w (List.mem_cons_of_mem _ h)
  have hown : s.vm.findClass RF = some m.cls := findClass_of_methodNamed B.named
  have hlocks := B.notSynchronized
  have hK := hE.1
  have hN := hE.2
  subst hsz
  have hD := hD0.self (sz := s.heap.size)
  generalize hAe : va_A [(a, .inr (1, [.ref b, .int pg, .int pn, .int us, .int di]))] s.heap.size = A at hD ⊢
  have hA : ∀ q : Nat, s.heap.size ≤ q → A q := fun q h => by rw [← hAe]; exact Or.inr h
  have hS : va_S A s.heap s.heap [] := va_S.rf
  have hP : va_P (dC, dI) clB [(a, .inr (1, [.ref b, .int pg, .int pn, .int us, .int di]))] s.heap := hP
  have hl := lv_entry ([.ref a, .int x]) (n := 2) (Nat.le_of_ble_eq_true rfl)
  rw [lg_entry_eq]
  generalize (lg_sl ([.ref a, .int x]) ++ List.replicate (2 - (lg_sl ([.ref a, .int x])).length) Slot.unset).toArray = ls at hl ⊢
  have hl : lv_has ls 2 [(0, .ref a), (1, .int x)] := hl
  refine lv_aload_n hx hb dF_takePage_0 rfl (lv_at hl 0 rfl) ?_
  refine lv_iload_n hx hb dF_takePage_1 rfl (lv_at hl 1 rfl) ?_
  refine va_put (D := (dC, dI)) (ci := 1) (v := .int x) (ty := .int) (C := RF) (T := TF) (N := 5) hx hb hts (inC inF) tyF tyF_ok nmF hown hK hP hD hS 0 rfl rfl 1 (by decide) (hq _ wi_95) (fun _ h9 => h9) rfl (by decide +kernel) rfl rfl (Nat.le_of_ble_eq_true rfl) dF_takePage_2 (fun H locs hP hD hS => ?_)
  have hP : va_P (dC, dI) clB [(a, .inr (1, [.ref b, .int x, .int pn, .int us, .int di]))] H := hP
  have hD : va_D A [(a, .inr (1, [.ref b, .int x, .int pn, .int us, .int di]))] := hD
  refine lv_aload_n hx hb dF_takePage_5 rfl (lv_at hl 0 rfl) ?_
  refine lv_iconst (v := 1) hx hb dF_takePage_6 (by decide) ?_
  refine va_put (D := (dC, dI)) (ci := 1) (v := .int 1) (ty := .int) (C := RF) (T := TF) (N := 5) hx hb hts (inC inF) tyF tyF_ok nmF hown hK hP hD hS 0 rfl rfl 2 (by decide) (hq _ wi_97) (fun _ h9 => h9) rfl (by decide +kernel) rfl rfl (Nat.le_of_ble_eq_true rfl) dF_takePage_7 (fun H locs hP hD hS => ?_)
  have hP : va_P (dC, dI) clB [(a, .inr (1, [.ref b, .int x, .int 1, .int us, .int di]))] H := hP
  have hD : va_D A [(a, .inr (1, [.ref b, .int x, .int 1, .int us, .int di]))] := hD
  refine lv_aload_n hx hb dF_takePage_10 rfl (lv_at hl 0 rfl) ?_
  refine lv_iconst (v := 1) hx hb dF_takePage_11 (by decide) ?_
  refine va_put (D := (dC, dI)) (ci := 1) (v := .int 1) (ty := .int) (C := RF) (T := TF) (N := 5) hx hb hts (inC inF) tyF tyF_ok nmF hown hK hP hD hS 0 rfl rfl 3 (by decide) (hq _ wi_99) (fun _ h9 => h9) rfl (by decide +kernel) rfl rfl (Nat.le_of_ble_eq_true rfl) dF_takePage_12 (fun H locs hP hD hS => ?_)
  have hP : va_P (dC, dI) clB [(a, .inr (1, [.ref b, .int x, .int 1, .int 1, .int di]))] H := hP
  have hD : va_D A [(a, .inr (1, [.ref b, .int x, .int 1, .int 1, .int di]))] := hD
  refine lv_aload_n hx hb dF_takePage_15 rfl (lv_at hl 0 rfl) ?_
  refine lv_iconst (v := 0) hx hb dF_takePage_16 (by decide) ?_
  refine va_put (D := (dC, dI)) (ci := 1) (v := .int 0) (ty := .boolean) (C := RF) (T := TF) (N := 5) hx hb hts (inC inF) tyF tyF_ok nmF hown hK hP hD hS 0 rfl rfl 4 (by decide) (hq _ wi_102) (fun _ h9 => h9) rfl (by decide +kernel) rfl rfl (Nat.le_of_ble_eq_true rfl) dF_takePage_17 (fun H locs hP hD hS => ?_)
  have hP : va_P (dC, dI) clB [(a, .inr (1, [.ref b, .int x, .int 1, .int 1, .int 0]))] H := hP
  have hD : va_D A [(a, .inr (1, [.ref b, .int x, .int 1, .int 1, .int 0]))] := hD
  exact W.vret hx hb hr (fun t ht hW => ⟨⟨(), rfl, trivial, by show va_P _ _ _ t.heap; rw [ht]; exact hP⟩, hS.F ht⟩) hS.2.2 dF_takePage_20

set_option maxHeartbeats 4000000 in
set_option maxRecDepth 100000 in
theorem c_F_dropPage (l : Launch) (dC : Nat → ClassId) (dI : Nat → Nat → Nat) (ka : Nat → ClassId) (sz : Nat) (a b : Nat) (pg pn us di : Int32) : Met l yF_dropPage wF_dropPage ({ frames := 0, cells := 0, slots := 0, locals := 0 }) (va_Pc [.ref a] (fun U => U.heap.size = sz ∧ tk_E dC dI ka U ∧ va_P (dC, dI) clB [(a, .inr (1, [.ref b, .int pg, .int pn, .int us, .int di]))] U.heap ∧ va_D (fun _ => True) [(a, .inr (1, [.ref b, .int pg, .int pn, .int us, .int di]))])) (va_Qv (fun _ : Unit => True) (fun _ t => va_P (dC, dI) clB [(a, .inr (1, [.ref b, .int (-1), .int 0, .int 0, .int 0]))] t.heap) (va_A [(a, .inr (1, [.ref b, .int pg, .int pn, .int us, .int di]))] sz)) 0 0 (va_A [(a, .inr (1, [.ref b, .int pg, .int pn, .int us, .int di]))] sz) := by
  refine Met.ofW (cc := cF_dropPage) (maxL := 1) (ret := none) (by decide) rfl ?_
  intro p e s m args below meth c s₁ B hml hv
  obtain ⟨rfl, hsz, hE, hP, hD0⟩ := hv
  have hx := B.exec
  have hb := B.bytes
  have hr := B.returns
  have hts := atoms_spec (ws := wF_dropPage) B.pre
  have hq : ∀ w ∈ lwg, w.before _ s = true := fun w h => hts w (List.mem_cons_of_mem _ h)
  have hown : s.vm.findClass RF = some m.cls := findClass_of_methodNamed B.named
  have hlocks := B.notSynchronized
  have hK := hE.1
  have hN := hE.2
  subst hsz
  have hD := hD0.self (sz := s.heap.size)
  generalize hAe : va_A [(a, .inr (1, [.ref b, .int pg, .int pn, .int us, .int di]))] s.heap.size = A at hD ⊢
  have hA : ∀ q : Nat, s.heap.size ≤ q → A q := fun q h => by rw [← hAe]; exact Or.inr h
  have hS : va_S A s.heap s.heap [] := va_S.rf
  have hP : va_P (dC, dI) clB [(a, .inr (1, [.ref b, .int pg, .int pn, .int us, .int di]))] s.heap := hP
  have hl := lv_entry ([.ref a]) (n := 1) (Nat.le_of_ble_eq_true rfl)
  rw [lg_entry_eq]
  generalize (lg_sl ([.ref a]) ++ List.replicate (1 - (lg_sl ([.ref a])).length) Slot.unset).toArray = ls at hl ⊢
  have hl : lv_has ls 1 [(0, .ref a)] := hl
  refine lv_aload_n hx hb dF_dropPage_0 rfl (lv_at hl 0 rfl) ?_
  refine lv_iconst (v := (-1)) hx hb dF_dropPage_1 (by decide) ?_
  refine va_put (D := (dC, dI)) (ci := 1) (v := .int (-1)) (ty := .int) (C := RF) (T := TF) (N := 5) hx hb hts (inC inF) tyF tyF_ok nmF hown hK hP hD hS 0 rfl rfl 1 (by decide) (hq _ wi_95) (fun _ h9 => h9) rfl (by decide +kernel) rfl rfl (Nat.le_of_ble_eq_true rfl) dF_dropPage_2 (fun H locs hP hD hS => ?_)
  have hP : va_P (dC, dI) clB [(a, .inr (1, [.ref b, .int (-1), .int pn, .int us, .int di]))] H := hP
  have hD : va_D A [(a, .inr (1, [.ref b, .int (-1), .int pn, .int us, .int di]))] := hD
  refine lv_aload_n hx hb dF_dropPage_5 rfl (lv_at hl 0 rfl) ?_
  refine lv_iconst (v := 0) hx hb dF_dropPage_6 (by decide) ?_
  refine va_put (D := (dC, dI)) (ci := 1) (v := .int 0) (ty := .int) (C := RF) (T := TF) (N := 5) hx hb hts (inC inF) tyF tyF_ok nmF hown hK hP hD hS 0 rfl rfl 2 (by decide) (hq _ wi_97) (fun _ h9 => h9) rfl (by decide +kernel) rfl rfl (Nat.le_of_ble_eq_true rfl) dF_dropPage_7 (fun H locs hP hD hS => ?_)
  have hP : va_P (dC, dI) clB [(a, .inr (1, [.ref b, .int (-1), .int 0, .int us, .int di]))] H := hP
  have hD : va_D A [(a, .inr (1, [.ref b, .int (-1), .int 0, .int us, .int di]))] := hD
  refine lv_aload_n hx hb dF_dropPage_10 rfl (lv_at hl 0 rfl) ?_
  refine lv_iconst (v := 0) hx hb dF_dropPage_11 (by decide) ?_
  refine va_put (D := (dC, dI)) (ci := 1) (v := .int 0) (ty := .int) (C := RF) (T := TF) (N := 5) hx hb hts (inC inF) tyF tyF_ok nmF hown hK hP hD hS 0 rfl rfl 3 (by decide) (hq _ wi_99) (fun _ h9 => h9) rfl (by decide +kernel) rfl rfl (Nat.le_of_ble_eq_true rfl) dF_dropPage_12 (fun H locs hP hD hS => ?_)
  have hP : va_P (dC, dI) clB [(a, .inr (1, [.ref b, .int (-1), .int 0, .int 0, .int di]))] H := hP
  have hD : va_D A [(a, .inr (1, [.ref b, .int (-1), .int 0, .int 0, .int di]))] := hD
  refine lv_aload_n hx hb dF_dropPage_15 rfl (lv_at hl 0 rfl) ?_
  refine lv_iconst (v := 0) hx hb dF_dropPage_16 (by decide) ?_
  refine va_put (D := (dC, dI)) (ci := 1) (v := .int 0) (ty := .boolean) (C := RF) (T := TF) (N := 5) hx hb hts (inC inF) tyF tyF_ok nmF hown hK hP hD hS 0 rfl rfl 4 (by decide) (hq _ wi_102) (fun _ h9 => h9) rfl (by decide +kernel) rfl rfl (Nat.le_of_ble_eq_true rfl) dF_dropPage_17 (fun H locs hP hD hS => ?_)
  have hP : va_P (dC, dI) clB [(a, .inr (1, [.ref b, .int (-1), .int 0, .int 0, .int 0]))] H := hP
  have hD : va_D A [(a, .inr (1, [.ref b, .int (-1), .int 0, .int 0, .int 0]))] := hD
  exact W.vret hx hb hr (fun t ht hW => ⟨⟨(), rfl, trivial, by show va_P _ _ _ t.heap; rw [ht]; exact hP⟩, hS.F ht⟩) hS.2.2 dF_dropPage_20

set_option maxHeartbeats 4000000 in
set_option maxRecDepth 100000 in
theorem c_F_place (l : Launch) (dC : Nat → ClassId) (dI : Nat → Nat → Nat) (ka : Nat → ClassId) (a b : Nat) (pg pn us di : Int32) (f : Nat → Int32) : Met l yF_place wF_place ({ frames := 1, cells := 0, slots := 0, locals := 21 }) (va_Pc [.ref a] (fun U => tk_E dC dI ka U ∧ va_P (dC, dI) clB [(a, .inr (1, [.ref b, .int pg, .int pn, .int us, .int di])), (b, .inl (ka 0, 512, .inl f))] U.heap)) (vp_Si (fun r => r = plB f)) 0 0 (fun _ => False) := by
  refine Met.ofW (cc := cF_place) (maxL := 1) (ret := (some .int)) (by decide) rfl ?_
  intro p e s m args below meth c s₁ B hml hv
  obtain ⟨rfl, hE, hP⟩ := hv
  have hx := B.exec
  have hb := B.bytes
  have hr := B.returns
  have hts := atoms_spec (ws := wF_place) B.pre
  have hq : ∀ w ∈ lwg, w.before _ s = true := fun w h => hts w (List.mem_cons_of_mem _ h)
  have hown : s.vm.findClass RF = some m.cls := findClass_of_methodNamed B.named
  have hlocks := B.notSynchronized
  have hK := hE.1
  have hN := hE.2
  have hP : va_P (dC, dI) clB [(a, .inr (1, [.ref b, .int pg, .int pn, .int us, .int di])), (b, .inl (ka 0, 512, .inl f))] s.heap := hP
  have hl := lv_entry ([.ref a]) (n := 1) (Nat.le_of_ble_eq_true rfl)
  rw [lg_entry_eq]
  generalize (lg_sl ([.ref a]) ++ List.replicate (1 - (lg_sl ([.ref a])).length) Slot.unset).toArray = ls at hl ⊢
  have hl : lv_has ls 1 [(0, .ref a)] := hl
  refine lv_aload_n hx hb dF_place_0 rfl (lv_at hl 0 rfl) ?_
  refine va_get (D := (dC, dI)) (ci := 1) (v := .ref b) (C := RF) (T := TF) (N := 5) hx hb hts (inC inF) hown hK hP 0 rfl rfl 0 (by decide) (hq _ wi_93) (fun _ h9 => h9) rfl dF_place_1 ?_
  refine lv_iconst (v := 2) hx hb dF_place_4 (by decide) ?_
  refine vp_callSi (va_Run.run (va_runSN (As := [.ref b, .int 2]) (rest := []) ⟨hx, hb, hml, hown, hts⟩ (c_B_twoBytes l dC dI ka b 512 f 2 2 rfl (by decide) (by decide)) ⟨va_cnB 2 hts (tw_I wi_163) rfl rfl rfl (hN _ ns_13) (hq _ wi_24) (by decide +kernel) ⟨Nat.le_of_ble_eq_true rfl, Nat.le_of_ble_eq_true rfl⟩, hq _ wi_162, trivial⟩ ⟨fun a U g mk q => ⟨q.1, tk_E.call q.2.1, q.2.2⟩, fun U hU hW => ⟨rfl, tk_E.warm hW hE, by rw [hU]; exact (tk_one hP (k := 1) rfl)⟩⟩ rfl rfl hl.1 rfl (lv_room (Nat.le_of_ble_eq_true rfl)) dF_place_5 ⟨Nat.zero_le _, Nat.zero_le _⟩)) (fun r_1 er_1 => ?_)
  subst er_1
  refine lv_bipush (v := 16) hx hb dF_place_8 (by decide) ?_
  refine lv_ishl hx hb dF_place_10 ?_
  refine lv_aload_n hx hb dF_place_11 rfl (lv_at hl 0 rfl) ?_
  refine va_get (D := (dC, dI)) (ci := 1) (v := .ref b) (C := RF) (T := TF) (N := 5) hx hb hts (inC inF) hown hK hP 0 rfl rfl 0 (by decide) (hq _ wi_93) (fun _ h9 => h9) rfl dF_place_12 ?_
  refine lv_iconst (v := 4) hx hb dF_place_15 (by decide) ?_
  refine vp_callSi (va_Run.run (va_runSN (As := [.ref b, .int 4]) (rest := [.int ((tb2 f 2) <<< ((16 : Int32) &&& 31))]) ⟨hx, hb, hml, hown, hts⟩ (c_B_twoBytes l dC dI ka b 512 f 4 4 rfl (by decide) (by decide)) ⟨va_cnB 2 hts (tw_I wi_163) rfl rfl rfl (hN _ ns_13) (hq _ wi_24) (by decide +kernel) ⟨Nat.le_of_ble_eq_true rfl, Nat.le_of_ble_eq_true rfl⟩, hq _ wi_162, trivial⟩ ⟨fun a U g mk q => ⟨q.1, tk_E.call q.2.1, q.2.2⟩, fun U hU hW => ⟨rfl, tk_E.warm hW hE, by rw [hU]; exact (tk_one hP (k := 1) rfl)⟩⟩ rfl rfl hl.1 rfl (lv_room (Nat.le_of_ble_eq_true rfl)) dF_place_16 ⟨Nat.zero_le _, Nat.zero_le _⟩)) (fun r_2 er_2 => ?_)
  subst er_2
  refine lv_ior hx hb dF_place_19 ?_
  exact W.iret (v := (((tb2 f 2) <<< ((16 : Int32) &&& 31)) ||| (tb2 f 4))) hx hb hr (fun t ht hW => ⟨(((tb2 f 2) <<< ((16 : Int32) &&& 31)) ||| (tb2 f 4)), rfl, rfl, ht⟩) (fun _ h => by cases h) dF_place_20
