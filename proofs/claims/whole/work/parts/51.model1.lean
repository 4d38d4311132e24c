set_option maxHeartbeats 4000000 in
set_option maxRecDepth 100000 in
theorem c_M_thrown (l : Launch) (dC : Nat → ClassId) (dI : Nat → Nat → Nat) (ka : Nat → ClassId) (h : Nat) (ad : Nat → Nat) (mth mnw : Int32) (mcp mcb mcv mcl mbl mpl mfm mto mfs mls mpg mpn mus mdi mst mbs : Nat → Int32) (mhd men mfl mrd mwn mlf : Int32) : Met l yM_thrown wM_thrown ({ frames := 0, cells := 0, slots := 0, locals := 0 }) (va_Pc [.ref h] (fun U => tk_E dC dI ka U ∧ va_P (dC, dI) clB (mw h ad ka mth mnw mcp mcb mcv mcl mbl mpl mfm mto mfs mls mpg mpn mus mdi mst mbs mhd men mfl mrd mwn mlf) U.heap)) (vp_Si (fun r => r = mth)) 0 0 (fun _ => False) := by
  refine Met.ofW (cc := cM_thrown) (maxL := 1) (ret := (some .int)) (by decide) rfl ?_
  intro p e s m args below meth c s₁ B hml hv
  obtain ⟨rfl, hE, hP⟩ := hv
  have hx := B.exec
  have hb := B.bytes
  have hr := B.returns
  have hts := atoms_spec (ws := wM_thrown) B.pre
  have hq : ∀ w ∈ lwg, w.before _ s = true := fun w h => hts w (List.mem_cons_of_mem _ h)
  have hown : s.vm.findClass RM = some m.cls := findClass_of_methodNamed B.named
  have hlocks := B.notSynchronized
  have hK := hE.1
  have hN := hE.2
  have hP : va_P (dC, dI) clB (mw h ad ka mth mnw mcp mcb mcv mcl mbl mpl mfm mto mfs mls mpg mpn mus mdi mst mbs mhd men mfl mrd mwn mlf) s.heap := hP
  have hl := lv_entry ([.ref h]) (n := 1) (Nat.le_of_ble_eq_true rfl)
  rw [lg_entry_eq]
  generalize (lg_sl ([.ref h]) ++ List.replicate (1 - (lg_sl ([.ref h])).length) Slot.unset).toArray = ls at hl ⊢
  have hl : lv_has ls 1 [(0, .ref h)] := hl
  refine lv_aload_n hx hb dM_thrown_0 rfl (lv_at hl 0 rfl) ?_
  refine va_get (D := (dC, dI)) (ci := 4) (v := .int mth) (C := RM) (T := TM) (N := 24) hx hb hts (inC inM) hown hK hP 0 rfl rfl 0 (by decide) (hq _ wi_466) (fun _ h9 => h9) rfl dM_thrown_1 ?_
  exact W.iret (v := mth) hx hb hr (fun t ht hW => ⟨mth, rfl, rfl, ht⟩) (fun _ h => by cases h) dM_thrown_4

set_option maxHeartbeats 4000000 in
set_option maxRecDepth 100000 in
theorem c_M_fails (l : Launch) (dC : Nat → ClassId) (dI : Nat → Nat → Nat) (ka : Nat → ClassId) (sz : Nat) (h : Nat) (ad : Nat → Nat) (mth mnw : Int32) (mcp mcb mcv mcl mbl mpl mfm mto mfs mls mpg mpn mus mdi mst mbs : Nat → Int32) (mhd men mfl mrd mwn mlf : Int32) (x : Int32) : Met l yM_fails wM_fails ({ frames := 0, cells := 0, slots := 0, locals := 0 }) (va_Pc [.ref h, .int x] (fun U => U.heap.size = sz ∧ tk_E dC dI ka U ∧ va_P (dC, dI) clB (mw h ad ka mth mnw mcp mcb mcv mcl mbl mpl mfm mto mfs mls mpg mpn mus mdi mst mbs mhd men mfl mrd mwn mlf) U.heap ∧ va_D (fun _ => True) (mw h ad ka mth mnw mcp mcb mcv mcl mbl mpl mfm mto mfs mls mpg mpn mus mdi mst mbs mhd men mfl mrd mwn mlf))) (va_Qi (fun (r : Int32) (_ : Unit) => r = 0) (fun _ t => va_P (dC, dI) clB (mw h ad ka x mnw mcp mcb mcv mcl mbl mpl mfm mto mfs mls mpg mpn mus mdi mst mbs mhd men mfl mrd mwn mlf) t.heap) (va_A (mw h ad ka mth mnw mcp mcb mcv mcl mbl mpl mfm mto mfs mls mpg mpn mus mdi mst mbs mhd men mfl mrd mwn mlf) sz)) 0 0 (va_A (mw h ad ka mth mnw mcp mcb mcv mcl mbl mpl mfm mto mfs mls mpg mpn mus mdi mst mbs mhd men mfl mrd mwn mlf) sz) := by
  refine Met.ofW (cc := cM_fails) (maxL := 2) (ret := (some .int)) (by decide) rfl ?_
  intro p e s m args below meth c s₁ B hml hv
  obtain ⟨rfl, hsz, hE, hP, hD0⟩ := hv
  have hx := B.exec
  have hb := B.bytes
  have hr := B.returns
  have hts := atoms_spec (ws := wM_fails) B.pre
  have hq : ∀ w ∈ lwg, w.before _ s = true := fun w h => hts w (List.mem_cons_of_mem _ h)
  have hown : s.vm.findClass RM = some m.cls := findClass_of_methodNamed B.named
  have hlocks := B.notSynchronized
  have hK := hE.1
  have hN := hE.2
  subst hsz
  have hD := hD0.self (sz := s.heap.size)
  generalize hAe : va_A (mw h ad ka mth mnw mcp mcb mcv mcl mbl mpl mfm mto mfs mls mpg mpn mus mdi mst mbs mhd men mfl mrd mwn mlf) s.heap.size = A at hD ⊢
  have hA : ∀ q : Nat, s.heap.size ≤ q → A q := fun q h => by rw [← hAe]; exact Or.inr h
  have hS : va_S A s.heap s.heap [] := va_S.rf
  have hDw := hD
  have hP : va_P (dC, dI) clB (mw h ad ka mth mnw mcp mcb mcv mcl mbl mpl mfm mto mfs mls mpg mpn mus mdi mst mbs mhd men mfl mrd mwn mlf) s.heap := hP
  have hl := lv_entry ([.ref h, .int x]) (n := 2) (Nat.le_of_ble_eq_true rfl)
  rw [lg_entry_eq]
  generalize (lg_sl ([.ref h, .int x]) ++ List.replicate (2 - (lg_sl ([.ref h, .int x])).length) Slot.unset).toArray = ls at hl ⊢
  have hl : lv_has ls 2 [(0, .ref h), (1, .int x)] := hl
  refine lv_aload_n hx hb dM_fails_0 rfl (lv_at hl 0 rfl) ?_
  refine lv_iload_n hx hb dM_fails_1 rfl (lv_at hl 1 rfl) ?_
  refine va_put (D := (dC, dI)) (ci := 4) (v := .int x) (ty := .int) (C := RM) (T := TM) (N := 24) hx hb hts (inC inM) tyM tyM_ok nmM hown hK hP hD hS 0 rfl rfl 0 (by decide) (hq _ wi_466) (fun _ h9 => h9) rfl (by decide +kernel) rfl rfl (Nat.le_of_ble_eq_true rfl) dM_fails_2 (fun H locs hP hD hS => ?_)
  have hP : va_P (dC, dI) clB (mw h ad ka x mnw mcp mcb mcv mcl mbl mpl mfm mto mfs mls mpg mpn mus mdi mst mbs mhd men mfl mrd mwn mlf) H := hP
  have hD : va_D A (mw h ad ka x mnw mcp mcb mcv mcl mbl mpl mfm mto mfs mls mpg mpn mus mdi mst mbs mhd men mfl mrd mwn mlf) := mw_D hDw
  refine lv_iconst (v := 0) hx hb dM_fails_5 (by decide) ?_
  exact W.iret (v := 0) hx hb hr (fun t ht hW => ⟨⟨0, (), rfl, rfl, by show va_P _ _ _ t.heap; rw [ht]; exact hP⟩, hS.F ht⟩) hS.2.2 dM_fails_6

set_option maxHeartbeats 4000000 in
set_option maxRecDepth 100000 in
theorem c_M_isPage (l : Launch) (dC : Nat → ClassId) (dI : Nat → Nat → Nat) (ka : Nat → ClassId) (x : Int32) : Met l yM_isPage wM_isPage ({ frames := 0, cells := 0, slots := 0, locals := 0 }) (va_Pc [.int x] (fun U => tk_E dC dI ka U ∧ va_P (dC, dI) clB [] U.heap)) (vp_Si (fun r => r = (if x < 0 then 0 else if 192 ≤ x then 0 else 1))) 0 0 (fun _ => False) := by
  refine Met.ofW (cc := cM_isPage) (maxL := 1) (ret := (some .boolean)) (by decide) rfl ?_
  intro p e s m args below meth c s₁ B hml hv
  obtain ⟨rfl, hE, hP⟩ := hv
  have hx := B.exec
  have hb := B.bytes
  have hr := B.returns
  have hts := atoms_spec (ws := wM_isPage) B.pre
  have hq : ∀ w ∈ lwg, w.before _ s = true := fun w h => hts w (List.mem_cons_of_mem _ h)
  have hown : s.vm.findClass RM = some m.cls := findClass_of_methodNamed B.named
  have hlocks := B.notSynchronized
  have hK := hE.1
  have hN := hE.2
  have hP : va_P (dC, dI) clB [] s.heap := hP
  have hl := lv_entry ([.int x]) (n := 1) (Nat.le_of_ble_eq_true rfl)
  rw [lg_entry_eq]
  generalize (lg_sl ([.int x]) ++ List.replicate (1 - (lg_sl ([.int x])).length) Slot.unset).toArray = ls at hl ⊢
  have hl : lv_has ls 1 [(0, .int x)] := hl
  refine lv_iload_n hx hb dM_isPage_0 rfl (lv_at hl 0 rfl) ?_
  refine lv_if_lt (tgt := 15) hx hb dM_isPage_1 (by decide) (fun c_1 => ?_) (fun c_1 => ?_)
  · refine lv_iconst (v := 0) hx hb dM_isPage_15 (by decide) ?_
    exact W.zret (v := 0) (ty := .boolean) hx hb hr rfl (fun t ht hW => ⟨0, rfl, (by simp [c_1]), ht⟩) (fun _ h => by cases h) dM_isPage_16
  · refine lv_iload_n hx hb dM_isPage_4 rfl (lv_at hl 0 rfl) ?_
    refine lv_sipush (v := 192) hx hb dM_isPage_5 (by decide) ?_
    refine lv_icmp_ge (tgt := 15) hx hb dM_isPage_8 (by decide) (fun c_2 => ?_) (fun c_2 => ?_)
    · refine lv_iconst (v := 0) hx hb dM_isPage_15 (by decide) ?_
      exact W.zret (v := 0) (ty := .boolean) hx hb hr rfl (fun t ht hW => ⟨0, rfl, (by simp [c_1, c_2]), ht⟩) (fun _ h => by cases h) dM_isPage_16
    · refine lv_iconst (v := 1) hx hb dM_isPage_11 (by decide) ?_
      refine lv_goto (tgt := 16) hx hb dM_isPage_12 (by decide) ?_
      exact W.zret (v := 1) (ty := .boolean) hx hb hr rfl (fun t ht hW => ⟨1, rfl, (by simp [c_1, c_2]), ht⟩) (fun _ h => by cases h) dM_isPage_16

set_option maxHeartbeats 4000000 in
set_option maxRecDepth 100000 in
theorem c_M_part (l : Launch) (dC : Nat → ClassId) (dI : Nat → Nat → Nat) (ka : Nat → ClassId) (x y z : Int32) : Met l yM_part wM_part ({ frames := 0, cells := 0, slots := 0, locals := 0 }) (va_Pc [.int x, .int y, .int z] (fun U => tk_E dC dI ka U ∧ va_P (dC, dI) clB [] U.heap)) (vp_Si (fun r => r = (x >>> (((8 * ((y - 1) - z)) : Int32) &&& 31)) &&& 255)) 0 0 (fun _ => False) := by
  refine Met.ofW (cc := cM_part) (maxL := 3) (ret := (some .int)) (by decide) rfl ?_
  intro p e s m args below meth c s₁ B hml hv
  obtain ⟨rfl, hE, hP⟩ := hv
  have hx := B.exec
  have hb := B.bytes
  have hr := B.returns
  have hts := atoms_spec (ws := wM_part) B.pre
  have hq : ∀ w ∈ lwg, w.before _ s = true := fun w h => hts w (List.mem_cons_of_mem _ h)
  have hown : s.vm.findClass RM = some m.cls := findClass_of_methodNamed B.named
  have hlocks := B.notSynchronized
  have hK := hE.1
  have hN := hE.2
  have hP : va_P (dC, dI) clB [] s.heap := hP
  have hl := lv_entry ([.int x, .int y, .int z]) (n := 3) (Nat.le_of_ble_eq_true rfl)
  rw [lg_entry_eq]
  generalize (lg_sl ([.int x, .int y, .int z]) ++ List.replicate (3 - (lg_sl ([.int x, .int y, .int z])).length) Slot.unset).toArray = ls at hl ⊢
  have hl : lv_has ls 3 [(0, .int x), (1, .int y), (2, .int z)] := hl
  refine lv_iload_n hx hb dM_part_0 rfl (lv_at hl 0 rfl) ?_
  refine lv_bipush (v := 8) hx hb dM_part_1 (by decide) ?_
  refine lv_iload_n hx hb dM_part_3 rfl (lv_at hl 1 rfl) ?_
  refine lv_iconst (v := 1) hx hb dM_part_4 (by decide) ?_
  refine lv_isub hx hb dM_part_5 ?_
  refine lv_iload_n hx hb dM_part_6 rfl (lv_at hl 2 rfl) ?_
  refine lv_isub hx hb dM_part_7 ?_
  refine lv_imul hx hb dM_part_8 ?_
  refine lv_ishr hx hb dM_part_9 ?_
  refine lv_sipush (v := 255) hx hb dM_part_10 (by decide) ?_
  refine lv_iand hx hb dM_part_13 ?_
  exact W.iret (v := ((x >>> (((8 * ((y - 1) - z)) : Int32) &&& 31)) &&& 255)) hx hb hr (fun t ht hW => ⟨((x >>> (((8 * ((y - 1) - z)) : Int32) &&& 31)) &&& 255), rfl, rfl, ht⟩) (fun _ h => by cases h) dM_part_14

set_option maxHeartbeats 4000000 in
set_option maxRecDepth 100000 in
theorem c_M_isTorn (l : Launch) (dC : Nat → ClassId) (dI : Nat → Nat → Nat) (ka : Nat → ClassId) (h : Nat) (ad : Nat → Nat) (mth mnw : Int32) (mcp mcb mcv mcl mbl mpl mfm mto mfs mls mpg mpn mus mdi mst mbs : Nat → Int32) (mhd men mfl mrd mwn mlf : Int32) (x : Int32) (n : Nat) (ex : x = nI n) (hn : n < 192) : Met l yM_isTorn wM_isTorn ({ frames := 0, cells := 0, slots := 0, locals := 0 }) (va_Pc [.ref h, .int x] (fun U => tk_E dC dI ka U ∧ va_P (dC, dI) clB (mw h ad ka mth mnw mcp mcb mcv mcl mbl mpl mfm mto mfs mls mpg mpn mus mdi mst mbs mhd men mfl mrd mwn mlf) U.heap)) (vp_Si (fun r => r = (if mfs n = mls n then 0 else 1))) 0 0 (fun _ => False) := by
  refine Met.ofW (cc := cM_isTorn) (maxL := 2) (ret := (some .boolean)) (by decide) rfl ?_
  intro p e s m args below meth c s₁ B hml hv
  obtain ⟨rfl, hE, hP⟩ := hv
  have hx := B.exec
  have hb := B.bytes
  have hr := B.returns
  have hts := atoms_spec (ws := wM_isTorn) B.pre
  have hq : ∀ w ∈ lwg, w.before _ s = true := fun w h => hts w (List.mem_cons_of_mem _ h)
  have hown : s.vm.findClass RM = some m.cls := findClass_of_methodNamed B.named
  have hlocks := B.notSynchronized
  have hK := hE.1
  have hN := hE.2
  have hP : va_P (dC, dI) clB (mw h ad ka mth mnw mcp mcb mcv mcl mbl mpl mfm mto mfs mls mpg mpn mus mdi mst mbs mhd men mfl mrd mwn mlf) s.heap := hP
  have hl := lv_entry ([.ref h, .int x]) (n := 2) (Nat.le_of_ble_eq_true rfl)
  rw [lg_entry_eq]
  generalize (lg_sl ([.ref h, .int x]) ++ List.replicate (2 - (lg_sl ([.ref h, .int x])).length) Slot.unset).toArray = ls at hl ⊢
  have hl : lv_has ls 2 [(0, .ref h), (1, .int x)] := hl
  refine lv_aload_n hx hb dM_isTorn_0 rfl (lv_at hl 0 rfl) ?_
  refine va_get (D := (dC, dI)) (ci := 4) (v := .ref (ad 8)) (C := RM) (T := TM) (N := 24) hx hb hts (inC inM) hown hK hP 0 rfl rfl 10 (by decide) (hq _ wi_476) (fun _ h9 => h9) rfl dM_isTorn_1 ?_
  refine lv_iload_n hx hb dM_isTorn_4 rfl (lv_at hl 1 rfl) ?_
  refine tk_iald (n := n) hx hb hK hP 9 3 rfl rfl ex hn (by decide) dM_isTorn_5 ?_
  refine lv_aload_n hx hb dM_isTorn_6 rfl (lv_at hl 0 rfl) ?_
  refine va_get (D := (dC, dI)) (ci := 4) (v := .ref (ad 9)) (C := RM) (T := TM) (N := 24) hx hb hts (inC inM) hown hK hP 0 rfl rfl 11 (by decide) (hq _ wi_477) (fun _ h9 => h9) rfl dM_isTorn_7 ?_
  refine lv_iload_n hx hb dM_isTorn_10 rfl (lv_at hl 1 rfl) ?_
  refine tk_iald (n := n) hx hb hK hP 10 3 rfl rfl ex hn (by decide) dM_isTorn_11 ?_
  refine lv_icmp_eq (tgt := 19) hx hb dM_isTorn_12 (by decide) (fun c_1 => ?_) (fun c_1 => ?_)
  · refine lv_iconst (v := 0) hx hb dM_isTorn_19 (by decide) ?_
    exact W.zret (v := 0) (ty := .boolean) hx hb hr rfl (fun t ht hW => ⟨0, rfl, (by simp [c_1]), ht⟩) (fun _ h => by cases h) dM_isTorn_20
  · refine lv_iconst (v := 1) hx hb dM_isTorn_15 (by decide) ?_
    refine lv_goto (tgt := 20) hx hb dM_isTorn_16 (by decide) ?_
    exact W.zret (v := 1) (ty := .boolean) hx hb hr rfl (fun t ht hW => ⟨1, rfl, (by simp [c_1]), ht⟩) (fun _ h => by cases h) dM_isTorn_20

set_option maxHeartbeats 4000000 in
set_option maxRecDepth 100000 in
theorem c_M_empty (l : Launch) (dC : Nat → ClassId) (dI : Nat → Nat → Nat) (ka : Nat → ClassId) (sz : Nat) (h : Nat) (ad : Nat → Nat) (mth mnw : Int32) (mcp mcb mcv mcl mbl mpl mfm mto mfs mls mpg mpn mus mdi mst mbs : Nat → Int32) (mhd men mfl mrd mwn mlf : Int32) : Met l yM_empty wM_empty ({ frames := 0, cells := 0, slots := 0, locals := 0 }) (va_Pc [.ref h] (fun U => U.heap.size = sz ∧ tk_E dC dI ka U ∧ va_P (dC, dI) clB (mw h ad ka mth mnw mcp mcb mcv mcl mbl mpl mfm mto mfs mls mpg mpn mus mdi mst mbs mhd men mfl mrd mwn mlf) U.heap ∧ va_D (fun _ => True) (mw h ad ka mth mnw mcp mcb mcv mcl mbl mpl mfm mto mfs mls mpg mpn mus mdi mst mbs mhd men mfl mrd mwn mlf))) (va_Qv (fun _ : Unit => True) (fun _ t => va_P (dC, dI) clB (mw h ad ka mth mnw mcp mcb mcv mcl mbl mpl mfm mto mfs mls (dropF (-1) mpg 12) mpn mus mdi mst mbs 0 men mfl mrd mwn (-1)) t.heap) (va_A (mw h ad ka mth mnw mcp mcb mcv mcl mbl mpl mfm mto mfs mls mpg mpn mus mdi mst mbs mhd men mfl mrd mwn mlf) sz)) 0 0 (va_A (mw h ad ka mth mnw mcp mcb mcv mcl mbl mpl mfm mto mfs mls mpg mpn mus mdi mst mbs mhd men mfl mrd mwn mlf) sz) := by
  refine Met.ofW (cc := cM_empty) (maxL := 2) (ret := none) (by decide) rfl ?_
  intro p e s m args below meth c s₁ B hml hv
  obtain ⟨rfl, hsz, hE, hP, hD0⟩ := hv
  have hx := B.exec
  have hb := B.bytes
  have hr := B.returns
  have hts := atoms_spec (ws := wM_empty) B.pre
  have hq : ∀ w ∈ lwg, w.before _ s = true := fun w h => hts w (List.mem_cons_of_mem _ h)
  have hown : s.vm.findClass RM = some m.cls := findClass_of_methodNamed B.named
  have hlocks := B.notSynchronized
  have hK := hE.1
  have hN := hE.2
  subst hsz
  have hD := hD0.self (sz := s.heap.size)
  generalize hAe : va_A (mw h ad ka mth mnw mcp mcb mcv mcl mbl mpl mfm mto mfs mls mpg mpn mus mdi mst mbs mhd men mfl mrd mwn mlf) s.heap.size = A at hD ⊢
  have hA : ∀ q : Nat, s.heap.size ≤ q → A q := fun q h => by rw [← hAe]; exact Or.inr h
  have hS : va_S A s.heap s.heap [] := va_S.rf
  have hDw := hD
  have hP : va_P (dC, dI) clB (mw h ad ka mth mnw mcp mcb mcv mcl mbl mpl mfm mto mfs mls mpg mpn mus mdi mst mbs mhd men mfl mrd mwn mlf) s.heap := hP
  have hl := lv_entry ([.ref h]) (n := 2) (Nat.le_of_ble_eq_true rfl)
  rw [lg_entry_eq]
  generalize (lg_sl ([.ref h]) ++ List.replicate (2 - (lg_sl ([.ref h])).length) Slot.unset).toArray = ls at hl ⊢
  have hl : lv_has ls 2 [(0, .ref h)] := hl
  refine lv_iconst (v := 0) hx hb dM_empty_0 (by decide) ?_
  refine lv_istore_n (lv' := [(1, .int 0), (0, .ref h)]) hx hb dM_empty_1 rfl hl (by decide) rfl (fun ls hl => ?_)
  refine tk_loop 2 (fun (n : Nat) (z : Nat) H locs ls => (z ≤ 12) ∧ (n = 12 - z) ∧ va_P (dC, dI) clB (mw h ad ka mth mnw mcp mcb mcv mcl mbl mpl mfm mto mfs mls (dropF (-1) mpg z) mpn mus mdi mst mbs mhd men mfl mrd mwn mlf) H ∧ va_D A (mw h ad ka mth mnw mcp mcb mcv mcl mbl mpl mfm mto mfs mls (dropF (-1) mpg z) mpn mus mdi mst mbs mhd men mfl mrd mwn mlf) ∧ va_S A s.heap H locs ∧ lv_has ls 2 [(0, .ref h), (1, .int (nI z))]) ?_ 12 0 ⟨(by decide), rfl, (by rw [dropF_0]; exact hP), (mw_D hDw), hS, lv_sub hl [1, 0] rfl⟩
  skip
  intro n z H locs ls hI ih
  obtain ⟨hi, hn, hP, hD, hS, hl⟩ := hI
  refine lv_iload_n hx hb dM_empty_2 rfl (lv_at hl 1 rfl) ?_
  refine lv_bipush (v := 12) hx hb dM_empty_3 (by decide) ?_
  refine lv_icmp_ge (tgt := 21) hx hb dM_empty_5 (by decide) (fun c_1 => ?_) (fun c_1 => ?_)
  · have h12 : z = 12 := by have := (nI_leI (a := 12) (b := z) (by decide) (by omega)).mp c_1; omega
    refine lv_aload_n hx hb dM_empty_21 rfl (lv_at hl 0 rfl) ?_
    refine lv_iconst (v := 0) hx hb dM_empty_22 (by decide) ?_
    refine va_put (D := (dC, dI)) (ci := 4) (v := .int 0) (ty := .int) (C := RM) (T := TM) (N := 24) hx hb hts (inC inM) tyM tyM_ok nmM hown hK hP hD hS 0 rfl rfl 18 (by decide) (hq _ wi_484) (fun _ h9 => h9) rfl (by decide +kernel) rfl rfl (Nat.le_of_ble_eq_true rfl) dM_empty_23 (fun H locs hP hD hS => ?_)
    have hP : va_P (dC, dI) clB (mw h ad ka mth mnw mcp mcb mcv mcl mbl mpl mfm mto mfs mls (dropF (-1) mpg z) mpn mus mdi mst mbs 0 men mfl mrd mwn mlf) H := hP
    have hD : va_D A (mw h ad ka mth mnw mcp mcb mcv mcl mbl mpl mfm mto mfs mls (dropF (-1) mpg z) mpn mus mdi mst mbs 0 men mfl mrd mwn mlf) := mw_D hDw
    refine lv_aload_n hx hb dM_empty_26 rfl (lv_at hl 0 rfl) ?_
    refine lv_iconst (v := (-1)) hx hb dM_empty_27 (by decide) ?_
    refine va_put (D := (dC, dI)) (ci := 4) (v := .int (-1)) (ty := .int) (C := RM) (T := TM) (N := 24) hx hb hts (inC inM) tyM tyM_ok nmM hown hK hP hD hS 0 rfl rfl 23 (by decide) (hq _ wi_489) (fun _ h9 => h9) rfl (by decide +kernel) rfl rfl (Nat.le_of_ble_eq_true rfl) dM_empty_28 (fun H locs hP hD hS => ?_)
    have hP : va_P (dC, dI) clB (mw h ad ka mth mnw mcp mcb mcv mcl mbl mpl mfm mto mfs mls (dropF (-1) mpg z) mpn mus mdi mst mbs 0 men mfl mrd mwn (-1)) H := hP
    have hD : va_D A (mw h ad ka mth mnw mcp mcb mcv mcl mbl mpl mfm mto mfs mls (dropF (-1) mpg z) mpn mus mdi mst mbs 0 men mfl mrd mwn (-1)) := mw_D hDw
    exact W.vret hx hb hr (fun t ht hW => ⟨⟨(), rfl, trivial, by show va_P _ _ _ t.heap; rw [ht]; exact (h12 ▸ hP)⟩, hS.F ht⟩) hS.2.2 dM_empty_31
  · have hz : z < 12 := by have := mt (nI_leI (a := 12) (b := z) (by decide) (by omega)).mpr c_1; omega
    refine lv_aload_n hx hb dM_empty_8 rfl (lv_at hl 0 rfl) ?_
    refine va_get (D := (dC, dI)) (ci := 4) (v := .ref (ad 10)) (C := RM) (T := TM) (N := 24) hx hb hts (inC inM) hown hK hP 0 rfl rfl 12 (by decide) (hq _ wi_478) (fun _ h9 => h9) rfl dM_empty_9 ?_
    refine lv_iload_n hx hb dM_empty_12 rfl (lv_at hl 1 rfl) ?_
    refine lv_iconst (v := (-1)) hx hb dM_empty_13 (by decide) ?_
    refine tk_iast (n := z) hx hb hK hP hD hS 11 3 rfl rfl rfl hz (by decide) dM_empty_14 (fun H locs hP hD hS => ?_)
    have hP : va_P (dC, dI) clB (mw h ad ka mth mnw mcp mcb mcv mcl mbl mpl mfm mto mfs mls (upd (dropF (-1) mpg z) z (-1)) mpn mus mdi mst mbs mhd men mfl mrd mwn mlf) H := hP
    have hD : va_D A (mw h ad ka mth mnw mcp mcb mcv mcl mbl mpl mfm mto mfs mls (upd (dropF (-1) mpg z) z (-1)) mpn mus mdi mst mbs mhd men mfl mrd mwn mlf) := mw_D hDw
    refine lv_iinc (v := ((nI z) + 1)) (lv' := [(1, .int ((nI z) + 1)), (0, .ref h)]) hx hb dM_empty_15 hl (k := 1) rfl rfl (by decide) rfl (fun ls hl => ?_)
    refine lv_goto (tgt := 2) hx hb dM_empty_18 (by decide) ?_
    exact ih (n - 1) (z + 1) _ _ _ (by omega) ⟨by omega, by omega, (by rw [← dropF_s]; exact hP), (mw_D hDw), hS, lv_sub hl [1, 0] (by rw [← nI_1]; rfl)⟩

set_option maxHeartbeats 4000000 in
set_option maxRecDepth 100000 in
theorem c_M_valueOf (l : Launch) (dC : Nat → ClassId) (dI : Nat → Nat → Nat) (ka : Nat → ClassId) (h : Nat) (ad : Nat → Nat) (mth mnw : Int32) (mcp mcb mcv mcl mbl mpl mfm mto mfs mls mpg mpn mus mdi mst mbs : Nat → Int32) (mhd men mfl mrd mwn mlf : Int32) (x y xb xu : Int32) (b u : Nat) (eb : xb = nI b) (eu : xu = nI u) (hbu : b ≤ u) (hu : u < 520) : Met l yM_valueOf wM_valueOf ({ frames := 0, cells := 0, slots := 0, locals := 0 }) (va_Pc [.ref h, .int x, .int y, .int xb, .int xu] (fun U => tk_E dC dI ka U ∧ va_P (dC, dI) clB (mw h ad ka mth mnw mcp mcb mcv mcl mbl mpl mfm mto mfs mls mpg mpn mus mdi mst mbs mhd men mfl mrd mwn mlf) U.heap)) (vp_Si (fun r => r = valF mcp mcb mcv mbl x y b (u - b))) 0 0 (fun _ => False) := by
  refine Met.ofW (cc := cM_valueOf) (maxL := 7) (ret := (some .int)) (by decide) rfl ?_
  intro p e s m args below meth c s₁ B hml hv
  obtain ⟨rfl, hE, hP⟩ := hv
  have hx := B.exec
  have hb := B.bytes
  have hr := B.returns
  have hts := atoms_spec (ws := wM_valueOf) B.pre
  have hq : ∀ w ∈ lwg, w.before _ s = true := fun w h => hts w (List.mem_cons_of_mem _ h)
  have hown : s.vm.findClass RM = some m.cls := findClass_of_methodNamed B.named
  have hlocks := B.notSynchronized
  have hK := hE.1
  have hN := hE.2
  have hP : va_P (dC, dI) clB (mw h ad ka mth mnw mcp mcb mcv mcl mbl mpl mfm mto mfs mls mpg mpn mus mdi mst mbs mhd men mfl mrd mwn mlf) s.heap := hP
  have hl := lv_entry ([.ref h, .int x, .int y, .int xb, .int xu]) (n := 7) (Nat.le_of_ble_eq_true rfl)
  rw [lg_entry_eq]
  generalize (lg_sl ([.ref h, .int x, .int y, .int xb, .int xu]) ++ List.replicate (7 - (lg_sl ([.ref h, .int x, .int y, .int xb, .int xu])).length) Slot.unset).toArray = ls at hl ⊢
  have hl : lv_has ls 7 [(0, .ref h), (1, .int x), (2, .int y), (3, .int xb), (4, .int xu)] := hl
  refine lv_iconst (v := 0) hx hb dM_valueOf_0 (by decide) ?_
  refine lv_istore (lv' := [(5, .int 0), (0, .ref h), (1, .int x), (2, .int y), (3, .int xb), (4, .int xu)]) hx hb dM_valueOf_1 hl (by decide) rfl (fun ls hl => ?_)
  refine lv_iload_n hx hb dM_valueOf_3 rfl (lv_at hl 4 rfl) ?_
  refine lv_iconst (v := 1) hx hb dM_valueOf_4 (by decide) ?_
  refine lv_iadd hx hb dM_valueOf_5 ?_
  refine lv_istore (lv' := [(6, .int (xb + 1)), (5, .int 0), (0, .ref h), (1, .int x), (2, .int y), (3, .int xb), (4, .int xu)]) hx hb dM_valueOf_6 hl (by decide) rfl (fun ls hl => ?_)
  subst eb
  subst eu
  refine tk_loop 8 (fun (n : Nat) (k : Nat) H locs ls => (H = s.heap) ∧ (locs = []) ∧ (k ≤ u - b) ∧ (n = u - b - k) ∧ va_P (dC, dI) clB (mw h ad ka mth mnw mcp mcb mcv mcl mbl mpl mfm mto mfs mls mpg mpn mus mdi mst mbs mhd men mfl mrd mwn mlf) H ∧ lv_has ls 7 [(0, .ref h), (1, .int x), (2, .int y), (4, .int (nI u)), (5, .int (valF mcp mcb mcv mbl x y b k)), (6, .int (nI (b + 1 + k)))]) ?_ (u - b) 0 ⟨rfl, rfl, Nat.zero_le _, rfl, hP, lv_sub hl [2, 3, 4, 6, 1, 0] (by rw [show b + 1 + 0 = b + 1 from rfl, ← nI_1 b]; rfl)⟩
  skip
  intro n k H locs ls hI ih
  obtain ⟨rfl, rfl, hi, hn, hP, hl⟩ := hI
  refine lv_iload hx hb dM_valueOf_8 (lv_at hl 5 rfl) ?_
  refine lv_iload hx hb dM_valueOf_10 (lv_at hl 3 rfl) ?_
  refine lv_icmp_gt (tgt := 67) hx hb dM_valueOf_12 (by decide) (fun c_1 => ?_) (fun c_1 => ?_)
  · have hk : k = u - b := by have := (nI_ltI (a := u) (b := b + 1 + k) (by omega) (by omega)).mp c_1; omega
    refine lv_iload hx hb dM_valueOf_67 (lv_at hl 4 rfl) ?_
    exact W.iret (v := (valF mcp mcb mcv mbl x y b k)) hx hb hr (fun t ht hW => ⟨(valF mcp mcb mcv mbl x y b k), rfl, (by rw [hk]), ht⟩) (fun _ h => by cases h) dM_valueOf_69
  · have hk : k < u - b := by have := mt (nI_ltI (a := u) (b := b + 1 + k) (by omega) (by omega)).mpr c_1; omega
    refine lv_aload_n hx hb dM_valueOf_15 rfl (lv_at hl 0 rfl) ?_
    refine va_get (D := (dC, dI)) (ci := 4) (v := .ref (ad 0)) (C := RM) (T := TM) (N := 24) hx hb hts (inC inM) hown hK hP 0 rfl rfl 2 (by decide) (hq _ wi_468) (fun _ h9 => h9) rfl dM_valueOf_16 ?_
    refine lv_iload hx hb dM_valueOf_19 (lv_at hl 5 rfl) ?_
    refine tk_sald (n := (b + 1 + k)) hx hb hK hP 1 2 rfl rfl rfl (by omega) (by decide) dM_valueOf_21 ?_
    refine lv_iload_n hx hb dM_valueOf_22 rfl (lv_at hl 1 rfl) ?_
    refine tk_sel (g1 := F0 m 59 ls (.int (if (mcp (b + 1 + k)) = x then (if (mcb (b + 1 + k)) = y then (if (mbl (b + 1 + k)) = 0 then (mcv (b + 1 + k)) else (valF mcp mcb mcv mbl x y b k)) else (valF mcp mcb mcv mbl x y b k)) else (valF mcp mcb mcv mbl x y b k)) :: [])) (fun hJ_2 => ?_) ?_
    · refine lv_icmp_ne (tgt := 57) hx hb dM_valueOf_23 (by decide) (fun c_3 => ?_) (fun c_3 => ?_)
      · refine lv_iload hx hb dM_valueOf_57 (lv_at hl 4 rfl) ?_
        exact tk_selx (if_neg c_3) hJ_2
      · refine lv_aload_n hx hb dM_valueOf_26 rfl (lv_at hl 0 rfl) ?_
        refine va_get (D := (dC, dI)) (ci := 4) (v := .ref (ad 1)) (C := RM) (T := TM) (N := 24) hx hb hts (inC inM) hown hK hP 0 rfl rfl 3 (by decide) (hq _ wi_469) (fun _ h9 => h9) rfl dM_valueOf_27 ?_
        refine lv_iload hx hb dM_valueOf_30 (lv_at hl 5 rfl) ?_
        refine tk_sald (n := (b + 1 + k)) hx hb hK hP 2 2 rfl rfl rfl (by omega) (by decide) dM_valueOf_32 ?_
        refine lv_iload_n hx hb dM_valueOf_33 rfl (lv_at hl 2 rfl) ?_
        refine lv_icmp_ne (tgt := 57) hx hb dM_valueOf_34 (by decide) (fun c_4 => ?_) (fun c_4 => ?_)
        · refine lv_iload hx hb dM_valueOf_57 (lv_at hl 4 rfl) ?_
          exact tk_selx ((if_pos c_3).trans (if_neg c_4)) hJ_2
        · refine lv_aload_n hx hb dM_valueOf_37 rfl (lv_at hl 0 rfl) ?_
          refine va_get (D := (dC, dI)) (ci := 4) (v := .ref (ad 4)) (C := RM) (T := TM) (N := 24) hx hb hts (inC inM) hown hK hP 0 rfl rfl 6 (by decide) (hq _ wi_472) (fun _ h9 => h9) rfl dM_valueOf_38 ?_
          refine lv_iload hx hb dM_valueOf_41 (lv_at hl 5 rfl) ?_
          refine tk_zald (n := (b + 1 + k)) hx hb hK hP 5 4 rfl rfl rfl (by omega) (by decide) dM_valueOf_43 ?_
          refine lv_if_ne (tgt := 57) hx hb dM_valueOf_44 (by decide) (fun c_5 => ?_) (fun c_5 => ?_)
          · refine lv_iload hx hb dM_valueOf_57 (lv_at hl 4 rfl) ?_
            exact tk_selx ((if_pos c_3).trans ((if_pos c_4).trans (if_neg c_5))) hJ_2
          · refine lv_aload_n hx hb dM_valueOf_47 rfl (lv_at hl 0 rfl) ?_
            refine va_get (D := (dC, dI)) (ci := 4) (v := .ref (ad 2)) (C := RM) (T := TM) (N := 24) hx hb hts (inC inM) hown hK hP 0 rfl rfl 4 (by decide) (hq _ wi_470) (fun _ h9 => h9) rfl dM_valueOf_48 ?_
            refine lv_iload hx hb dM_valueOf_51 (lv_at hl 5 rfl) ?_
            refine tk_sald (n := (b + 1 + k)) hx hb hK hP 3 2 rfl rfl rfl (by omega) (by decide) dM_valueOf_53 ?_
            refine lv_goto (tgt := 59) hx hb dM_valueOf_54 (by decide) ?_
            exact tk_selx ((if_pos c_3).trans ((if_pos c_4).trans (if_pos c_5))) hJ_2
    refine lv_istore (lv' := [(5, .int (if (mcp (b + 1 + k)) = x then (if (mcb (b + 1 + k)) = y then (if (mbl (b + 1 + k)) = 0 then (mcv (b + 1 + k)) else (valF mcp mcb mcv mbl x y b k)) else (valF mcp mcb mcv mbl x y b k)) else (valF mcp mcb mcv mbl x y b k))), (0, .ref h), (1, .int x), (2, .int y), (4, .int (nI u)), (6, .int (nI (b + 1 + k)))]) hx hb dM_valueOf_59 hl (by decide) rfl (fun ls hl => ?_)
    refine lv_iinc (v := ((nI (b + 1 + k)) + 1)) (lv' := [(6, .int ((nI (b + 1 + k)) + 1)), (5, .int (if (mcp (b + 1 + k)) = x then (if (mcb (b + 1 + k)) = y then (if (mbl (b + 1 + k)) = 0 then (mcv (b + 1 + k)) else (valF mcp mcb mcv mbl x y b k)) else (valF mcp mcb mcv mbl x y b k)) else (valF mcp mcb mcv mbl x y b k))), (0, .ref h), (1, .int x), (2, .int y), (4, .int (nI u))]) hx hb dM_valueOf_61 hl (k := 5) rfl rfl (by decide) rfl (fun ls hl => ?_)
    refine lv_goto (tgt := 8) hx hb dM_valueOf_64 (by decide) ?_
    exact ih (n - 1) (k + 1) _ _ _ (by omega) ⟨rfl, rfl, by omega, by omega, hP, lv_sub hl [2, 3, 4, 5, 1, 0] (by rw [show b + 1 + (k + 1) = b + 1 + k + 1 by omega, ← nI_1 (b + 1 + k)]; rfl)⟩

set_option maxHeartbeats 4000000 in
set_option maxRecDepth 100000 in
theorem c_M_placeOf (l : Launch) (dC : Nat → ClassId) (dI : Nat → Nat → Nat) (ka : Nat → ClassId) (h : Nat) (ad : Nat → Nat) (mth mnw : Int32) (mcp mcb mcv mcl mbl mpl mfm mto mfs mls mpg mpn mus mdi mst mbs : Nat → Int32) (mhd men mfl mrd mwn mlf : Int32) (x xb xu : Int32) (b u : Nat) (eb : xb = nI b) (eu : xu = nI u) (hbu : b ≤ u) (hu : u < 520) : Met l yM_placeOf wM_placeOf ({ frames := 0, cells := 0, slots := 0, locals := 0 }) (va_Pc [.ref h, .int x, .int xb, .int xu] (fun U => tk_E dC dI ka U ∧ va_P (dC, dI) clB (mw h ad ka mth mnw mcp mcb mcv mcl mbl mpl mfm mto mfs mls mpg mpn mus mdi mst mbs mhd men mfl mrd mwn mlf) U.heap)) (vp_Si (fun r => r = plcF mcp mcl mpl x b (u - b))) 0 0 (fun _ => False) := by
  refine Met.ofW (cc := cM_placeOf) (maxL := 6) (ret := (some .int)) (by decide) rfl ?_
  intro p e s m args below meth c s₁ B hml hv
  obtain ⟨rfl, hE, hP⟩ := hv
  have hx := B.exec
  have hb := B.bytes
  have hr := B.returns
  have hts := atoms_spec (ws := wM_placeOf) B.pre
  have hq : ∀ w ∈ lwg, w.before _ s = true := fun w h => hts w (List.mem_cons_of_mem _ h)
  have hown : s.vm.findClass RM = some m.cls := findClass_of_methodNamed B.named
  have hlocks := B.notSynchronized
  have hK := hE.1
  have hN := hE.2
  have hP : va_P (dC, dI) clB (mw h ad ka mth mnw mcp mcb mcv mcl mbl mpl mfm mto mfs mls mpg mpn mus mdi mst mbs mhd men mfl mrd mwn mlf) s.heap := hP
  have hl := lv_entry ([.ref h, .int x, .int xb, .int xu]) (n := 6) (Nat.le_of_ble_eq_true rfl)
  rw [lg_entry_eq]
  generalize (lg_sl ([.ref h, .int x, .int xb, .int xu]) ++ List.replicate (6 - (lg_sl ([.ref h, .int x, .int xb, .int xu])).length) Slot.unset).toArray = ls at hl ⊢
  have hl : lv_has ls 6 [(0, .ref h), (1, .int x), (2, .int xb), (3, .int xu)] := hl
  refine lv_iconst (v := 0) hx hb dM_placeOf_0 (by decide) ?_
  refine lv_istore (lv' := [(4, .int 0), (0, .ref h), (1, .int x), (2, .int xb), (3, .int xu)]) hx hb dM_placeOf_1 hl (by decide) rfl (fun ls hl => ?_)
  refine lv_iload_n hx hb dM_placeOf_3 rfl (lv_at hl 3 rfl) ?_
  refine lv_iconst (v := 1) hx hb dM_placeOf_4 (by decide) ?_
  refine lv_iadd hx hb dM_placeOf_5 ?_
  refine lv_istore (lv' := [(5, .int (xb + 1)), (4, .int 0), (0, .ref h), (1, .int x), (2, .int xb), (3, .int xu)]) hx hb dM_placeOf_6 hl (by decide) rfl (fun ls hl => ?_)
  subst eb
  subst eu
  refine tk_loop 8 (fun (n : Nat) (k : Nat) H locs ls => (H = s.heap) ∧ (locs = []) ∧ (k ≤ u - b) ∧ (n = u - b - k) ∧ va_P (dC, dI) clB (mw h ad ka mth mnw mcp mcb mcv mcl mbl mpl mfm mto mfs mls mpg mpn mus mdi mst mbs mhd men mfl mrd mwn mlf) H ∧ lv_has ls 6 [(0, .ref h), (1, .int x), (3, .int (nI u)), (4, .int (plcF mcp mcl mpl x b k)), (5, .int (nI (b + 1 + k)))]) ?_ (u - b) 0 ⟨rfl, rfl, Nat.zero_le _, rfl, hP, lv_sub hl [2, 3, 5, 1, 0] (by rw [show b + 1 + 0 = b + 1 from rfl, ← nI_1 b]; rfl)⟩
  skip
  intro n k H locs ls hI ih
  obtain ⟨rfl, rfl, hi, hn, hP, hl⟩ := hI
  refine lv_iload hx hb dM_placeOf_8 (lv_at hl 4 rfl) ?_
  refine lv_iload_n hx hb dM_placeOf_10 rfl (lv_at hl 2 rfl) ?_
  refine lv_icmp_gt (tgt := 55) hx hb dM_placeOf_11 (by decide) (fun c_1 => ?_) (fun c_1 => ?_)
  · have hk : k = u - b := by have := (nI_ltI (a := u) (b := b + 1 + k) (by omega) (by omega)).mp c_1; omega
    refine lv_iload hx hb dM_placeOf_55 (lv_at hl 3 rfl) ?_
    exact W.iret (v := (plcF mcp mcl mpl x b k)) hx hb hr (fun t ht hW => ⟨(plcF mcp mcl mpl x b k), rfl, (by rw [hk]), ht⟩) (fun _ h => by cases h) dM_placeOf_57
  · have hk : k < u - b := by have := mt (nI_ltI (a := u) (b := b + 1 + k) (by omega) (by omega)).mpr c_1; omega
    refine lv_aload_n hx hb dM_placeOf_14 rfl (lv_at hl 0 rfl) ?_
    refine va_get (D := (dC, dI)) (ci := 4) (v := .ref (ad 0)) (C := RM) (T := TM) (N := 24) hx hb hts (inC inM) hown hK hP 0 rfl rfl 2 (by decide) (hq _ wi_468) (fun _ h9 => h9) rfl dM_placeOf_15 ?_
    refine lv_iload hx hb dM_placeOf_18 (lv_at hl 4 rfl) ?_
    refine tk_sald (n := (b + 1 + k)) hx hb hK hP 1 2 rfl rfl rfl (by omega) (by decide) dM_placeOf_20 ?_
    refine lv_iload_n hx hb dM_placeOf_21 rfl (lv_at hl 1 rfl) ?_
    refine tk_sel (g1 := F0 m 47 ls (.int (if (mcp (b + 1 + k)) = x then (if (mpl (b + 1 + k)) = 0 then (mcl (b + 1 + k)) else (plcF mcp mcl mpl x b k)) else (plcF mcp mcl mpl x b k)) :: [])) (fun hJ_2 => ?_) ?_
    · refine lv_icmp_ne (tgt := 45) hx hb dM_placeOf_22 (by decide) (fun c_3 => ?_) (fun c_3 => ?_)
      · refine lv_iload hx hb dM_placeOf_45 (lv_at hl 3 rfl) ?_
        exact tk_selx (if_neg c_3) hJ_2
      · refine lv_aload_n hx hb dM_placeOf_25 rfl (lv_at hl 0 rfl) ?_
        refine va_get (D := (dC, dI)) (ci := 4) (v := .ref (ad 5)) (C := RM) (T := TM) (N := 24) hx hb hts (inC inM) hown hK hP 0 rfl rfl 7 (by decide) (hq _ wi_473) (fun _ h9 => h9) rfl dM_placeOf_26 ?_
        refine lv_iload hx hb dM_placeOf_29 (lv_at hl 4 rfl) ?_
        refine tk_zald (n := (b + 1 + k)) hx hb hK hP 6 4 rfl rfl rfl (by omega) (by decide) dM_placeOf_31 ?_
        refine lv_if_ne (tgt := 45) hx hb dM_placeOf_32 (by decide) (fun c_4 => ?_) (fun c_4 => ?_)
        · refine lv_iload hx hb dM_placeOf_45 (lv_at hl 3 rfl) ?_
          exact tk_selx ((if_pos c_3).trans (if_neg c_4)) hJ_2
        · refine lv_aload_n hx hb dM_placeOf_35 rfl (lv_at hl 0 rfl) ?_
          refine va_get (D := (dC, dI)) (ci := 4) (v := .ref (ad 3)) (C := RM) (T := TM) (N := 24) hx hb hts (inC inM) hown hK hP 0 rfl rfl 5 (by decide) (hq _ wi_471) (fun _ h9 => h9) rfl dM_placeOf_36 ?_
          refine lv_iload hx hb dM_placeOf_39 (lv_at hl 4 rfl) ?_
          refine tk_iald (n := (b + 1 + k)) hx hb hK hP 4 3 rfl rfl rfl (by omega) (by decide) dM_placeOf_41 ?_
          refine lv_goto (tgt := 47) hx hb dM_placeOf_42 (by decide) ?_
          exact tk_selx ((if_pos c_3).trans (if_pos c_4)) hJ_2
    refine lv_istore (lv' := [(4, .int (if (mcp (b + 1 + k)) = x then (if (mpl (b + 1 + k)) = 0 then (mcl (b + 1 + k)) else (plcF mcp mcl mpl x b k)) else (plcF mcp mcl mpl x b k))), (0, .ref h), (1, .int x), (3, .int (nI u)), (5, .int (nI (b + 1 + k)))]) hx hb dM_placeOf_47 hl (by decide) rfl (fun ls hl => ?_)
    refine lv_iinc (v := ((nI (b + 1 + k)) + 1)) (lv' := [(5, .int ((nI (b + 1 + k)) + 1)), (4, .int (if (mcp (b + 1 + k)) = x then (if (mpl (b + 1 + k)) = 0 then (mcl (b + 1 + k)) else (plcF mcp mcl mpl x b k)) else (plcF mcp mcl mpl x b k))), (0, .ref h), (1, .int x), (3, .int (nI u))]) hx hb dM_placeOf_49 hl (k := 4) rfl rfl (by decide) rfl (fun ls hl => ?_)
    refine lv_goto (tgt := 8) hx hb dM_placeOf_52 (by decide) ?_
    exact ih (n - 1) (k + 1) _ _ _ (by omega) ⟨rfl, rfl, by omega, by omega, hP, lv_sub hl [2, 3, 4, 1, 0] (by rw [show b + 1 + (k + 1) = b + 1 + k + 1 by omega, ← nI_1 (b + 1 + k)]; rfl)⟩
