theorem sec_ix {n k : Nat} (hk : k < 2 ^ 31) : (8 : Int32) * nI n + nI k / 64 = nI (8 * n + k / 64) := by
  rw [show (8 : Int32) = nI 8 from rfl, show (64 : Int32) = nI 64 from rfl, pk_mul, pk_div hk (by decide) (by decide), nI_add]
theorem sec_i0 {n : Nat} : (8 : Int32) * nI n = nI (8 * n) := by rw [show (8 : Int32) = nI 8 from rfl, pk_mul]
theorem nar_01 {x : Int32} (h : x = 0 ∨ x = 1) : vp_nar .boolean x = x := by
  rcases h with rfl | rfl <;> decide
theorem nar_v01 {x : Int32} (h : x = 0 ∨ x = 1) : narrow .boolean (.int x) = .int x := by
  rcases h with rfl | rfl <;> rfl
theorem ite_01 {c : Prop} [Decidable c] {a b : Int32} (ha : a = 0 ∨ a = 1) (hb : b = 0 ∨ b = 1) : (if c then a else b) = 0 ∨ (if c then a else b) = 1 := by
  split
  · exact ha
  · exact hb

set_option maxHeartbeats 4000000 in
set_option maxRecDepth 100000 in
theorem c_M_framePlace (l : Launch) (dC : Nat → ClassId) (dI : Nat → Nat → Nat) (ka : Nat → ClassId) (h : Nat) (ad : Nat → Nat) (mth mnw : Int32) (mcp mcb mcv mcl mbl mpl mfm mto mfs mls mpg mpn mus mdi mst mbs : Nat → Int32) (mhd men mfl mrd mwn mlf : Int32) (x : Int32) (n b u : Nat) (ex : x = nI n) (hn : n < 12) (eb : mbs n = nI b) (eu : mnw = nI u) (hbu : b ≤ u) (hu : u < 520) : Met l yM_framePlace wM_framePlace ({ frames := 1, cells := 0, slots := 0, locals := 25 }) (va_Pc [.ref h, .int x] (fun U => tk_E dC dI ka U ∧ va_P (dC, dI) clB (mw h ad ka mth mnw mcp mcb mcv mcl mbl mpl mfm mto mfs mls mpg mpn mus mdi mst mbs mhd men mfl mrd mwn mlf) U.heap)) (vp_Si (fun r => r = plcF mcp mcl mpl (mpg n) b (u - b))) 0 0 (fun _ => False) := by
  refine Met.ofW (cc := cM_framePlace) (maxL := 2) (ret := (some .int)) (by decide) rfl ?_
  intro p e s m args below meth c s₁ B hml hv
  obtain ⟨rfl, hE, hP⟩ := hv
  have hx := B.exec
  have hb := B.bytes
  have hr := B.returns
  have hts := atoms_spec (ws := wM_framePlace) B.pre
  have hq : ∀ w ∈ lwg, w.before _ s = true := fun w h => hts w (List.mem_cons_of_mem _ h)
  have hown : s.vm.findClass RM = some m.cls := findClass_of_methodNamed B.named
  have hlocks := B.notSynchronized
  have hK := hE.1
  have hN := hE.2
  have hP : va_P (dC, dI) clB (mw h ad ka mth mnw mcp mcb mcv mcl mbl mpl mfm mto mfs mls mpg mpn mus mdi mst mbs mhd men mfl mrd mwn mlf) s.heap := hP
  have hl := lv_entry ([.ref h, .int x]) (n := 2) (Nat.le_of_ble_eq_true rfl)
  rw [lg_entry_eq]
  generalize (lg_sl ([.ref h, .int x]) ++ List.replicate (2 - (lg_sl ([.ref h, .int x])).length) Slot.unset).toArray = ls at hl ⊢
  have hl : lv_has ls 2 [(0, .ref h), (1, .int x)] := hl
  refine lv_aload_n hx hb dM_framePlace_0 rfl (lv_at hl 0 rfl) ?_
  refine lv_aload_n hx hb dM_framePlace_1 rfl (lv_at hl 0 rfl) ?_
  refine va_get (D := (dC, dI)) (ci := 4) (v := .ref (ad 10)) (C := RM) (T := TM) (N := 24) hx hb hts (inC inM) hown hK hP 0 rfl rfl 12 (by decide) (hq _ wi_478) (fun _ h9 => h9) rfl dM_framePlace_2 ?_
  refine lv_iload_n hx hb dM_framePlace_5 rfl (lv_at hl 1 rfl) ?_
  refine tk_iald (n := n) hx hb hK hP 11 3 rfl rfl ex hn (by decide) dM_framePlace_6 ?_
  refine lv_aload_n hx hb dM_framePlace_7 rfl (lv_at hl 0 rfl) ?_
  refine va_get (D := (dC, dI)) (ci := 4) (v := .ref (ad 15)) (C := RM) (T := TM) (N := 24) hx hb hts (inC inM) hown hK hP 0 rfl rfl 17 (by decide) (hq _ wi_483) (fun _ h9 => h9) rfl dM_framePlace_8 ?_
  refine lv_iload_n hx hb dM_framePlace_11 rfl (lv_at hl 1 rfl) ?_
  refine tk_iald (n := n) hx hb hK hP 16 3 rfl rfl ex hn (by decide) dM_framePlace_12 ?_
  refine lv_aload_n hx hb dM_framePlace_13 rfl (lv_at hl 0 rfl) ?_
  refine va_get (D := (dC, dI)) (ci := 4) (v := .int mnw) (C := RM) (T := TM) (N := 24) hx hb hts (inC inM) hown hK hP 0 rfl rfl 1 (by decide) (hq _ wi_467) (fun _ h9 => h9) rfl dM_framePlace_14 ?_
  refine vp_callSi (va_Run.run (va_runV (As := [.int (mpg n), .int (mbs n), .int mnw]) (rest := []) ⟨hx, hb, hml, hown, hts⟩ (c_M_placeOf l dC dI ka h ad mth mnw mcp mcb mcv mcl mbl mpl mfm mto mfs mls mpg mpn mus mdi mst mbs mhd men mfl mrd mwn mlf (mpg n) (mbs n) mnw b u eb eu hbu hu) (cwV 3 hts (tw_V wi_557 wi_559 wi_12 wi_28 wi_560) rfl rfl rfl (by decide +kernel) ⟨Nat.le_of_ble_eq_true rfl, Nat.le_of_ble_eq_true rfl⟩) ⟨fun a U g mk q => ⟨q.1, tk_E.call q.2.1, q.2.2⟩, va_recv hK hP (ci := 4) (q0 := 0) rfl rfl, fun U hU hW => ⟨rfl, tk_E.warm hW hE, by rw [hU]; exact hP⟩⟩ rfl rfl hl.1 rfl (lv_room (Nat.le_of_ble_eq_true rfl)) dM_framePlace_17 ⟨Nat.zero_le _, Nat.zero_le _⟩)) (fun r_1 er_1 => ?_)
  subst er_1
  exact W.iret (v := (plcF mcp mcl mpl (mpg n) b (u - b))) hx hb hr (fun t ht hW => ⟨(plcF mcp mcl mpl (mpg n) b (u - b)), rfl, rfl, ht⟩) (fun _ h => by cases h) dM_framePlace_20

set_option maxHeartbeats 4000000 in
set_option maxRecDepth 100000 in
theorem c_M_get_f0 (l : Launch) (dC : Nat → ClassId) (dI : Nat → Nat → Nat) (ka : Nat → ClassId) (sz : Nat) (h : Nat) (ad : Nat → Nat) (mth mnw : Int32) (mcp mcb mcv mcl mbl mpl mfm mto mfs mls mpg mpn mus mdi mst mbs : Nat → Int32) (mhd men mfl mrd mwn mlf : Int32) (x y : Int32) (hx0 : x < 0 ∨ nI 12 ≤ x) : Met l yM_get wM_get ({ frames := 0, cells := 0, slots := 0, locals := 0 }) (va_Pc [.ref h, .int x, .int y] (fun U => U.heap.size = sz ∧ tk_E dC dI ka U ∧ va_P (dC, dI) clB (mw h ad ka mth mnw mcp mcb mcv mcl mbl mpl mfm mto mfs mls mpg mpn mus mdi mst mbs mhd men mfl mrd mwn mlf) U.heap ∧ va_D (fun _ => True) (mw h ad ka mth mnw mcp mcb mcv mcl mbl mpl mfm mto mfs mls mpg mpn mus mdi mst mbs mhd men mfl mrd mwn mlf))) (va_Qi (fun (r : Int32) (_ : Unit) => r = -1) (fun _ t => va_P (dC, dI) clB (mw h ad ka 0 mnw mcp mcb mcv mcl mbl mpl mfm mto mfs mls mpg mpn mus mdi mst mbs mhd men mfl mrd mwn mlf) t.heap) (va_A (mw h ad ka mth mnw mcp mcb mcv mcl mbl mpl mfm mto mfs mls mpg mpn mus mdi mst mbs mhd men mfl mrd mwn mlf) sz)) 0 0 (va_A (mw h ad ka mth mnw mcp mcb mcv mcl mbl mpl mfm mto mfs mls mpg mpn mus mdi mst mbs mhd men mfl mrd mwn mlf) sz) := by
  refine Met.ofW (cc := cM_get) (maxL := 3) (ret := (some .int)) (by decide) rfl ?_
  intro p e s m args below meth c s₁ B hml hv
  obtain ⟨rfl, hsz, hE, hP, hD0⟩ := hv
  have hx := B.exec
  have hb := B.bytes
  have hr := B.returns
  have hts := atoms_spec (ws := wM_get) B.pre
  have hq : ∀ w ∈ lwg, w.before _ s = true := fun w h => hts w (List.mem_cons_of_mem _ h)
  have hown : s.vm.findClass RM = some m.cls := findClass_of_methodNamed B.named
  have hlocks := B.notSynchronized
  have hK := hE.1
  have hN := hE.2
  subst hsz
  have hD := hD0.self (sz := s.heap.size)
  generalize hAe : va_A (mw h ad ka mth mnw mcp mcb mcv mcl mbl mpl mfm mto mfs mls mpg mpn mus mdi mst mbs mhd men mfl mrd mwn mlf) s.heap.size = A at hD ⊢
  have hA : ∀ q : Nat, s.heap.size ≤ q → A q := fun q h => by rw [← hAe]; exact Or.inr h
  have hS : va_S A s.heap s.heap [] := va_S.rf
  have hDw := hD
  have hP : va_P (dC, dI) clB (mw h ad ka mth mnw mcp mcb mcv mcl mbl mpl mfm mto mfs mls mpg mpn mus mdi mst mbs mhd men mfl mrd mwn mlf) s.heap := hP
  have hl := lv_entry ([.ref h, .int x, .int y]) (n := 3) (Nat.le_of_ble_eq_true rfl)
  rw [lg_entry_eq]
  generalize (lg_sl ([.ref h, .int x, .int y]) ++ List.replicate (3 - (lg_sl ([.ref h, .int x, .int y])).length) Slot.unset).toArray = ls at hl ⊢
  have hl : lv_has ls 3 [(0, .ref h), (1, .int x), (2, .int y)] := hl
  refine lv_aload_n hx hb dM_get_0 rfl (lv_at hl 0 rfl) ?_
  refine lv_iconst (v := 0) hx hb dM_get_1 (by decide) ?_
  refine va_put (D := (dC, dI)) (ci := 4) (v := .int 0) (ty := .int) (C := RM) (T := TM) (N := 24) hx hb hts (inC inM) tyM tyM_ok nmM hown hK hP hD hS 0 rfl rfl 0 (by decide) (hq _ wi_466) (fun _ h9 => h9) rfl (by decide +kernel) rfl rfl (Nat.le_of_ble_eq_true rfl) dM_get_2 (fun H locs hP hD hS => ?_)
  have hP : va_P (dC, dI) clB (mw h ad ka 0 mnw mcp mcb mcv mcl mbl mpl mfm mto mfs mls mpg mpn mus mdi mst mbs mhd men mfl mrd mwn mlf) H := hP
  have hD : va_D A (mw h ad ka 0 mnw mcp mcb mcv mcl mbl mpl mfm mto mfs mls mpg mpn mus mdi mst mbs mhd men mfl mrd mwn mlf) := mw_D hDw
  refine lv_iload_n hx hb dM_get_5 rfl (lv_at hl 1 rfl) ?_
  refine lv_if_lt (tgt := 35) hx hb dM_get_6 (by decide) (fun c_1 => ?_) (fun c_1 => ?_)
  · refine lv_iconst (v := (-1)) hx hb dM_get_35 (by decide) ?_
    exact W.iret (v := (-1)) hx hb hr (fun t ht hW => ⟨⟨(-1), (), rfl, rfl, by show va_P _ _ _ t.heap; rw [ht]; exact hP⟩, hS.F ht⟩) hS.2.2 dM_get_36
  · refine lv_iload_n hx hb dM_get_9 rfl (lv_at hl 1 rfl) ?_
    refine lv_bipush (v := 12) hx hb dM_get_10 (by decide) ?_
    refine lv_icmp_ge (tgt := 35) hx hb dM_get_12 (by decide) (fun c_2 => ?_) (fun c_2 => ?_)
    · refine lv_iconst (v := (-1)) hx hb dM_get_35 (by decide) ?_
      exact W.iret (v := (-1)) hx hb hr (fun t ht hW => ⟨⟨(-1), (), rfl, rfl, by show va_P _ _ _ t.heap; rw [ht]; exact hP⟩, hS.F ht⟩) hS.2.2 dM_get_36
    · exact absurd (hx0.resolve_left c_1) c_2

set_option maxHeartbeats 4000000 in
set_option maxRecDepth 100000 in
theorem c_M_get_e0 (l : Launch) (dC : Nat → ClassId) (dI : Nat → Nat → Nat) (ka : Nat → ClassId) (sz : Nat) (h : Nat) (ad : Nat → Nat) (mth mnw : Int32) (mcp mcb mcv mcl mbl mpl mfm mto mfs mls mpg mpn mus mdi mst mbs : Nat → Int32) (mhd men mfl mrd mwn mlf : Int32) (x y : Int32) (n : Nat) (ex : x = nI n) (hn : n < 12) (hp : mpg n < 0) : Met l yM_get wM_get ({ frames := 0, cells := 0, slots := 0, locals := 0 }) (va_Pc [.ref h, .int x, .int y] (fun U => U.heap.size = sz ∧ tk_E dC dI ka U ∧ va_P (dC, dI) clB (mw h ad ka mth mnw mcp mcb mcv mcl mbl mpl mfm mto mfs mls mpg mpn mus mdi mst mbs mhd men mfl mrd mwn mlf) U.heap ∧ va_D (fun _ => True) (mw h ad ka mth mnw mcp mcb mcv mcl mbl mpl mfm mto mfs mls mpg mpn mus mdi mst mbs mhd men mfl mrd mwn mlf))) (va_Qi (fun (r : Int32) (_ : Unit) => r = -1) (fun _ t => va_P (dC, dI) clB (mw h ad ka 0 mnw mcp mcb mcv mcl mbl mpl mfm mto mfs mls mpg mpn mus mdi mst mbs mhd men mfl mrd mwn mlf) t.heap) (va_A (mw h ad ka mth mnw mcp mcb mcv mcl mbl mpl mfm mto mfs mls mpg mpn mus mdi mst mbs mhd men mfl mrd mwn mlf) sz)) 0 0 (va_A (mw h ad ka mth mnw mcp mcb mcv mcl mbl mpl mfm mto mfs mls mpg mpn mus mdi mst mbs mhd men mfl mrd mwn mlf) sz) := by
  refine Met.ofW (cc := cM_get) (maxL := 3) (ret := (some .int)) (by decide) rfl ?_
  intro p e s m args below meth c s₁ B hml hv
  obtain ⟨rfl, hsz, hE, hP, hD0⟩ := hv
  have hx := B.exec
  have hb := B.bytes
  have hr := B.returns
  have hts := atoms_spec (ws := wM_get) B.pre
  have hq : ∀ w ∈ lwg, w.before _ s = true := fun w h => hts w (List.mem_cons_of_mem _ h)
  have hown : s.vm.findClass RM = some m.cls := findClass_of_methodNamed B.named
  have hlocks := B.notSynchronized
  have hK := hE.1
  have hN := hE.2
  subst hsz
  have hD := hD0.self (sz := s.heap.size)
  generalize hAe : va_A (mw h ad ka mth mnw mcp mcb mcv mcl mbl mpl mfm mto mfs mls mpg mpn mus mdi mst mbs mhd men mfl mrd mwn mlf) s.heap.size = A at hD ⊢
  have hA : ∀ q : Nat, s.heap.size ≤ q → A q := fun q h => by rw [← hAe]; exact Or.inr h
  have hS : va_S A s.heap s.heap [] := va_S.rf
  have hDw := hD
  have hP : va_P (dC, dI) clB (mw h ad ka mth mnw mcp mcb mcv mcl mbl mpl mfm mto mfs mls mpg mpn mus mdi mst mbs mhd men mfl mrd mwn mlf) s.heap := hP
  have hl := lv_entry ([.ref h, .int x, .int y]) (n := 3) (Nat.le_of_ble_eq_true rfl)
  rw [lg_entry_eq]
  generalize (lg_sl ([.ref h, .int x, .int y]) ++ List.replicate (3 - (lg_sl ([.ref h, .int x, .int y])).length) Slot.unset).toArray = ls at hl ⊢
  have hl : lv_has ls 3 [(0, .ref h), (1, .int x), (2, .int y)] := hl
  refine lv_aload_n hx hb dM_get_0 rfl (lv_at hl 0 rfl) ?_
  refine lv_iconst (v := 0) hx hb dM_get_1 (by decide) ?_
  refine va_put (D := (dC, dI)) (ci := 4) (v := .int 0) (ty := .int) (C := RM) (T := TM) (N := 24) hx hb hts (inC inM) tyM tyM_ok nmM hown hK hP hD hS 0 rfl rfl 0 (by decide) (hq _ wi_466) (fun _ h9 => h9) rfl (by decide +kernel) rfl rfl (Nat.le_of_ble_eq_true rfl) dM_get_2 (fun H locs hP hD hS => ?_)
  have hP : va_P (dC, dI) clB (mw h ad ka 0 mnw mcp mcb mcv mcl mbl mpl mfm mto mfs mls mpg mpn mus mdi mst mbs mhd men mfl mrd mwn mlf) H := hP
  have hD : va_D A (mw h ad ka 0 mnw mcp mcb mcv mcl mbl mpl mfm mto mfs mls mpg mpn mus mdi mst mbs mhd men mfl mrd mwn mlf) := mw_D hDw
  refine lv_iload_n hx hb dM_get_5 rfl (lv_at hl 1 rfl) ?_
  refine lv_if_lt (tgt := 35) hx hb dM_get_6 (by decide) (fun c_1 => ?_) (fun c_1 => ?_)
  · exact absurd c_1 (by rw [ex]; exact nI_pos (by omega))
  · refine lv_iload_n hx hb dM_get_9 rfl (lv_at hl 1 rfl) ?_
    refine lv_bipush (v := 12) hx hb dM_get_10 (by decide) ?_
    refine lv_icmp_ge (tgt := 35) hx hb dM_get_12 (by decide) (fun c_2 => ?_) (fun c_2 => ?_)
    · exact absurd c_2 (by rw [ex]; exact nI_ge hn (by decide))
    · refine lv_aload_n hx hb dM_get_15 rfl (lv_at hl 0 rfl) ?_
      refine va_get (D := (dC, dI)) (ci := 4) (v := .ref (ad 10)) (C := RM) (T := TM) (N := 24) hx hb hts (inC inM) hown hK hP 0 rfl rfl 12 (by decide) (hq _ wi_478) (fun _ h9 => h9) rfl dM_get_16 ?_
      refine lv_iload_n hx hb dM_get_19 rfl (lv_at hl 1 rfl) ?_
      refine tk_iald (n := n) hx hb hK hP 11 3 rfl rfl ex hn (by decide) dM_get_20 ?_
      refine lv_if_lt (tgt := 35) hx hb dM_get_21 (by decide) (fun c_3 => ?_) (fun c_3 => ?_)
      · refine lv_iconst (v := (-1)) hx hb dM_get_35 (by decide) ?_
        exact W.iret (v := (-1)) hx hb hr (fun t ht hW => ⟨⟨(-1), (), rfl, rfl, by show va_P _ _ _ t.heap; rw [ht]; exact hP⟩, hS.F ht⟩) hS.2.2 dM_get_36
      · exact absurd hp c_3

set_option maxHeartbeats 4000000 in
set_option maxRecDepth 100000 in
theorem c_M_get_b0 (l : Launch) (dC : Nat → ClassId) (dI : Nat → Nat → Nat) (ka : Nat → ClassId) (sz : Nat) (h : Nat) (ad : Nat → Nat) (mth mnw : Int32) (mcp mcb mcv mcl mbl mpl mfm mto mfs mls mpg mpn mus mdi mst mbs : Nat → Int32) (mhd men mfl mrd mwn mlf : Int32) (x y : Int32) (n : Nat) (ex : x = nI n) (hn : n < 12) (hp : ¬ mpg n < 0) (hy0 : y < 0 ∨ nI 512 ≤ y) : Met l yM_get wM_get ({ frames := 0, cells := 0, slots := 0, locals := 0 }) (va_Pc [.ref h, .int x, .int y] (fun U => U.heap.size = sz ∧ tk_E dC dI ka U ∧ va_P (dC, dI) clB (mw h ad ka mth mnw mcp mcb mcv mcl mbl mpl mfm mto mfs mls mpg mpn mus mdi mst mbs mhd men mfl mrd mwn mlf) U.heap ∧ va_D (fun _ => True) (mw h ad ka mth mnw mcp mcb mcv mcl mbl mpl mfm mto mfs mls mpg mpn mus mdi mst mbs mhd men mfl mrd mwn mlf))) (va_Qi (fun (r : Int32) (_ : Unit) => r = -1) (fun _ t => va_P (dC, dI) clB (mw h ad ka 0 mnw mcp mcb mcv mcl mbl mpl mfm mto mfs mls mpg mpn mus mdi mst mbs mhd men mfl mrd mwn mlf) t.heap) (va_A (mw h ad ka mth mnw mcp mcb mcv mcl mbl mpl mfm mto mfs mls mpg mpn mus mdi mst mbs mhd men mfl mrd mwn mlf) sz)) 0 0 (va_A (mw h ad ka mth mnw mcp mcb mcv mcl mbl mpl mfm mto mfs mls mpg mpn mus mdi mst mbs mhd men mfl mrd mwn mlf) sz) := by
  refine Met.ofW (cc := cM_get) (maxL := 3) (ret := (some .int)) (by decide) rfl ?_
  intro p e s m args below meth c s₁ B hml hv
  obtain ⟨rfl, hsz, hE, hP, hD0⟩ := hv
  have hx := B.exec
  have hb := B.bytes
  have hr := B.returns
  have hts := atoms_spec (ws := wM_get) B.pre
  have hq : ∀ w ∈ lwg, w.before _ s = true := fun w h => hts w (List.mem_cons_of_mem _ h)
  have hown : s.vm.findClass RM = some m.cls := findClass_of_methodNamed B.named
  have hlocks := B.notSynchronized
  have hK := hE.1
  have hN := hE.2
  subst hsz
  have hD := hD0.self (sz := s.heap.size)
  generalize hAe : va_A (mw h ad ka mth mnw mcp mcb mcv mcl mbl mpl mfm mto mfs mls mpg mpn mus mdi mst mbs mhd men mfl mrd mwn mlf) s.heap.size = A at hD ⊢
  have hA : ∀ q : Nat, s.heap.size ≤ q → A q := fun q h => by rw [← hAe]; exact Or.inr h
  have hS : va_S A s.heap s.heap [] := va_S.rf
  have hDw := hD
  have hP : va_P (dC, dI) clB (mw h ad ka mth mnw mcp mcb mcv mcl mbl mpl mfm mto mfs mls mpg mpn mus mdi mst mbs mhd men mfl mrd mwn mlf) s.heap := hP
  have hl := lv_entry ([.ref h, .int x, .int y]) (n := 3) (Nat.le_of_ble_eq_true rfl)
  rw [lg_entry_eq]
  generalize (lg_sl ([.ref h, .int x, .int y]) ++ List.replicate (3 - (lg_sl ([.ref h, .int x, .int y])).length) Slot.unset).toArray = ls at hl ⊢
  have hl : lv_has ls 3 [(0, .ref h), (1, .int x), (2, .int y)] := hl
  refine lv_aload_n hx hb dM_get_0 rfl (lv_at hl 0 rfl) ?_
  refine lv_iconst (v := 0) hx hb dM_get_1 (by decide) ?_
  refine va_put (D := (dC, dI)) (ci := 4) (v := .int 0) (ty := .int) (C := RM) (T := TM) (N := 24) hx hb hts (inC inM) tyM tyM_ok nmM hown hK hP hD hS 0 rfl rfl 0 (by decide) (hq _ wi_466) (fun _ h9 => h9) rfl (by decide +kernel) rfl rfl (Nat.le_of_ble_eq_true rfl) dM_get_2 (fun H locs hP hD hS => ?_)
  have hP : va_P (dC, dI) clB (mw h ad ka 0 mnw mcp mcb mcv mcl mbl mpl mfm mto mfs mls mpg mpn mus mdi mst mbs mhd men mfl mrd mwn mlf) H := hP
  have hD : va_D A (mw h ad ka 0 mnw mcp mcb mcv mcl mbl mpl mfm mto mfs mls mpg mpn mus mdi mst mbs mhd men mfl mrd mwn mlf) := mw_D hDw
  refine lv_iload_n hx hb dM_get_5 rfl (lv_at hl 1 rfl) ?_
  refine lv_if_lt (tgt := 35) hx hb dM_get_6 (by decide) (fun c_1 => ?_) (fun c_1 => ?_)
  · exact absurd c_1 (by rw [ex]; exact nI_pos (by omega))
  · refine lv_iload_n hx hb dM_get_9 rfl (lv_at hl 1 rfl) ?_
    refine lv_bipush (v := 12) hx hb dM_get_10 (by decide) ?_
    refine lv_icmp_ge (tgt := 35) hx hb dM_get_12 (by decide) (fun c_2 => ?_) (fun c_2 => ?_)
    · exact absurd c_2 (by rw [ex]; exact nI_ge hn (by decide))
    · refine lv_aload_n hx hb dM_get_15 rfl (lv_at hl 0 rfl) ?_
      refine va_get (D := (dC, dI)) (ci := 4) (v := .ref (ad 10)) (C := RM) (T := TM) (N := 24) hx hb hts (inC inM) hown hK hP 0 rfl rfl 12 (by decide) (hq _ wi_478) (fun _ h9 => h9) rfl dM_get_16 ?_
      refine lv_iload_n hx hb dM_get_19 rfl (lv_at hl 1 rfl) ?_
      refine tk_iald (n := n) hx hb hK hP 11 3 rfl rfl ex hn (by decide) dM_get_20 ?_
      refine lv_if_lt (tgt := 35) hx hb dM_get_21 (by decide) (fun c_3 => ?_) (fun c_3 => ?_)
      · exact absurd c_3 hp
      · refine lv_iload_n hx hb dM_get_24 rfl (lv_at hl 2 rfl) ?_
        refine lv_if_lt (tgt := 35) hx hb dM_get_25 (by decide) (fun c_4 => ?_) (fun c_4 => ?_)
        · refine lv_iconst (v := (-1)) hx hb dM_get_35 (by decide) ?_
          exact W.iret (v := (-1)) hx hb hr (fun t ht hW => ⟨⟨(-1), (), rfl, rfl, by show va_P _ _ _ t.heap; rw [ht]; exact hP⟩, hS.F ht⟩) hS.2.2 dM_get_36
        · refine lv_iload_n hx hb dM_get_28 rfl (lv_at hl 2 rfl) ?_
          refine lv_sipush (v := 511) hx hb dM_get_29 (by decide) ?_
          refine lv_icmp_le (tgt := 37) hx hb dM_get_32 (by decide) (fun c_5 => ?_) (fun c_5 => ?_)
          · exact absurd (Int32.le_trans (hy0.resolve_left c_4) c_5) (by decide)
          · refine lv_iconst (v := (-1)) hx hb dM_get_35 (by decide) ?_
            exact W.iret (v := (-1)) hx hb hr (fun t ht hW => ⟨⟨(-1), (), rfl, rfl, by show va_P _ _ _ t.heap; rw [ht]; exact hP⟩, hS.F ht⟩) hS.2.2 dM_get_36

set_option maxHeartbeats 4000000 in
set_option maxRecDepth 100000 in
theorem c_M_get_in (l : Launch) (dC : Nat → ClassId) (dI : Nat → Nat → Nat) (ka : Nat → ClassId) (sz : Nat) (h : Nat) (ad : Nat → Nat) (mth mnw : Int32) (mcp mcb mcv mcl mbl mpl mfm mto mfs mls mpg mpn mus mdi mst mbs : Nat → Int32) (mhd men mfl mrd mwn mlf : Int32) (x y : Int32) (n k b u : Nat) (ex : x = nI n) (hn : n < 12) (hp : ¬ mpg n < 0) (ey : y = nI k) (hk : k < 512) (eb : mbs n = nI b) (eu : mnw = nI u) (hbu : b ≤ u) (hu : u < 520) : Met l yM_get wM_get ({ frames := 2, cells := 0, slots := 0, locals := 46 }) (va_Pc [.ref h, .int x, .int y] (fun U => U.heap.size = sz ∧ tk_E dC dI ka U ∧ va_P (dC, dI) clB (mw h ad ka mth mnw mcp mcb mcv mcl mbl mpl mfm mto mfs mls mpg mpn mus mdi mst mbs mhd men mfl mrd mwn mlf) U.heap ∧ va_D (fun _ => True) (mw h ad ka mth mnw mcp mcb mcv mcl mbl mpl mfm mto mfs mls mpg mpn mus mdi mst mbs mhd men mfl mrd mwn mlf))) (va_Qi (fun (r : Int32) (_ : Unit) => r = (if 2 ≤ y then (if y ≤ 509 then (if 6 ≤ y then (valF mcp mcb mcv mbl (mpg n) y b (u - b)) else (((plcF mcp mcl mpl (mpg n) b (u - b)) >>> (((8 * ((4 - 1) - (y - 2))) : Int32) &&& 31)) &&& 255)) else (((mst n) >>> (((8 * ((2 - 1) - (y - 510))) : Int32) &&& 31)) &&& 255)) else (((mst n) >>> (((8 * ((2 - 1) - y)) : Int32) &&& 31)) &&& 255))) (fun _ t => va_P (dC, dI) clB (mw h ad ka 0 mnw mcp mcb mcv mcl mbl mpl mfm mto mfs mls mpg mpn mus mdi mst mbs mhd men mfl mrd mwn mlf) t.heap) (va_A (mw h ad ka mth mnw mcp mcb mcv mcl mbl mpl mfm mto mfs mls mpg mpn mus mdi mst mbs mhd men mfl mrd mwn mlf) sz)) 0 0 (va_A (mw h ad ka mth mnw mcp mcb mcv mcl mbl mpl mfm mto mfs mls mpg mpn mus mdi mst mbs mhd men mfl mrd mwn mlf) sz) := by
  refine Met.ofW (cc := cM_get) (maxL := 3) (ret := (some .int)) (by decide) rfl ?_
  intro p e s m args below meth c s₁ B hml hv
  obtain ⟨rfl, hsz, hE, hP, hD0⟩ := hv
  have hx := B.exec
  have hb := B.bytes
  have hr := B.returns
  have hts := atoms_spec (ws := wM_get) B.pre
  have hq : ∀ w ∈ lwg, w.before _ s = true := fun w h => hts w (List.mem_cons_of_mem _ h)
  have hown : s.vm.findClass RM = some m.cls := findClass_of_methodNamed B.named
  have hlocks := B.notSynchronized
  have hK := hE.1
  have hN := hE.2
  subst hsz
  have hD := hD0.self (sz := s.heap.size)
  generalize hAe : va_A (mw h ad ka mth mnw mcp mcb mcv mcl mbl mpl mfm mto mfs mls mpg mpn mus mdi mst mbs mhd men mfl mrd mwn mlf) s.heap.size = A at hD ⊢
  have hA : ∀ q : Nat, s.heap.size ≤ q → A q := fun q h => by rw [← hAe]; exact Or.inr h
  have hS : va_S A s.heap s.heap [] := va_S.rf
  have hDw := hD
  have hP : va_P (dC, dI) clB (mw h ad ka mth mnw mcp mcb mcv mcl mbl mpl mfm mto mfs mls mpg mpn mus mdi mst mbs mhd men mfl mrd mwn mlf) s.heap := hP
  have hl := lv_entry ([.ref h, .int x, .int y]) (n := 3) (Nat.le_of_ble_eq_true rfl)
  rw [lg_entry_eq]
  generalize (lg_sl ([.ref h, .int x, .int y]) ++ List.replicate (3 - (lg_sl ([.ref h, .int x, .int y])).length) Slot.unset).toArray = ls at hl ⊢
  have hl : lv_has ls 3 [(0, .ref h), (1, .int x), (2, .int y)] := hl
  refine lv_aload_n hx hb dM_get_0 rfl (lv_at hl 0 rfl) ?_
  refine lv_iconst (v := 0) hx hb dM_get_1 (by decide) ?_
  refine va_put (D := (dC, dI)) (ci := 4) (v := .int 0) (ty := .int) (C := RM) (T := TM) (N := 24) hx hb hts (inC inM) tyM tyM_ok nmM hown hK hP hD hS 0 rfl rfl 0 (by decide) (hq _ wi_466) (fun _ h9 => h9) rfl (by decide +kernel) rfl rfl (Nat.le_of_ble_eq_true rfl) dM_get_2 (fun H locs hP hD hS => ?_)
  have hP : va_P (dC, dI) clB (mw h ad ka 0 mnw mcp mcb mcv mcl mbl mpl mfm mto mfs mls mpg mpn mus mdi mst mbs mhd men mfl mrd mwn mlf) H := hP
  have hD : va_D A (mw h ad ka 0 mnw mcp mcb mcv mcl mbl mpl mfm mto mfs mls mpg mpn mus mdi mst mbs mhd men mfl mrd mwn mlf) := mw_D hDw
  refine lv_iload_n hx hb dM_get_5 rfl (lv_at hl 1 rfl) ?_
  refine lv_if_lt (tgt := 35) hx hb dM_get_6 (by decide) (fun c_1 => ?_) (fun c_1 => ?_)
  · exact absurd c_1 (by rw [ex]; exact nI_pos (by omega))
  · refine lv_iload_n hx hb dM_get_9 rfl (lv_at hl 1 rfl) ?_
    refine lv_bipush (v := 12) hx hb dM_get_10 (by decide) ?_
    refine lv_icmp_ge (tgt := 35) hx hb dM_get_12 (by decide) (fun c_2 => ?_) (fun c_2 => ?_)
    · exact absurd c_2 (by rw [ex]; exact nI_ge hn (by decide))
    · refine lv_aload_n hx hb dM_get_15 rfl (lv_at hl 0 rfl) ?_
      refine va_get (D := (dC, dI)) (ci := 4) (v := .ref (ad 10)) (C := RM) (T := TM) (N := 24) hx hb hts (inC inM) hown hK hP 0 rfl rfl 12 (by decide) (hq _ wi_478) (fun _ h9 => h9) rfl dM_get_16 ?_
      refine lv_iload_n hx hb dM_get_19 rfl (lv_at hl 1 rfl) ?_
      refine tk_iald (n := n) hx hb hK hP 11 3 rfl rfl ex hn (by decide) dM_get_20 ?_
      refine lv_if_lt (tgt := 35) hx hb dM_get_21 (by decide) (fun c_3 => ?_) (fun c_3 => ?_)
      · exact absurd c_3 hp
      · refine lv_iload_n hx hb dM_get_24 rfl (lv_at hl 2 rfl) ?_
        refine lv_if_lt (tgt := 35) hx hb dM_get_25 (by decide) (fun c_4 => ?_) (fun c_4 => ?_)
        · exact absurd c_4 (by rw [ey]; exact nI_pos (by omega))
        · refine lv_iload_n hx hb dM_get_28 rfl (lv_at hl 2 rfl) ?_
          refine lv_sipush (v := 511) hx hb dM_get_29 (by decide) ?_
          refine lv_icmp_le (tgt := 37) hx hb dM_get_32 (by decide) (fun c_5 => ?_) (fun c_5 => ?_)
          · refine tk_sel (g1 := F0 m 123 ls (.int (if 2 ≤ y then (if y ≤ 509 then (if 6 ≤ y then (valF mcp mcb mcv mbl (mpg n) y b (u - b)) else (((plcF mcp mcl mpl (mpg n) b (u - b)) >>> (((8 * ((4 - 1) - (y - 2))) : Int32) &&& 31)) &&& 255)) else (((mst n) >>> (((8 * ((2 - 1) - (y - 510))) : Int32) &&& 31)) &&& 255)) else (((mst n) >>> (((8 * ((2 - 1) - y)) : Int32) &&& 31)) &&& 255)) :: [])) (fun hJ_6 => ?_) ?_
            · refine lv_iload_n hx hb dM_get_37 rfl (lv_at hl 2 rfl) ?_
              refine lv_iconst (v := 2) hx hb dM_get_38 (by decide) ?_
              refine lv_icmp_ge (tgt := 56) hx hb dM_get_39 (by decide) (fun c_7 => ?_) (fun c_7 => ?_)
              · refine lv_iload_n hx hb dM_get_56 rfl (lv_at hl 2 rfl) ?_
                refine lv_sipush (v := 509) hx hb dM_get_57 (by decide) ?_
                refine lv_icmp_le (tgt := 81) hx hb dM_get_60 (by decide) (fun c_8 => ?_) (fun c_8 => ?_)
                · refine lv_iload_n hx hb dM_get_81 rfl (lv_at hl 2 rfl) ?_
                  refine lv_bipush (v := 6) hx hb dM_get_82 (by decide) ?_
                  refine lv_icmp_ge (tgt := 102) hx hb dM_get_84 (by decide) (fun c_9 => ?_) (fun c_9 => ?_)
                  · refine lv_aload_n hx hb dM_get_102 rfl (lv_at hl 0 rfl) ?_
                    refine lv_aload_n hx hb dM_get_103 rfl (lv_at hl 0 rfl) ?_
                    refine va_get (D := (dC, dI)) (ci := 4) (v := .ref (ad 10)) (C := RM) (T := TM) (N := 24) hx hb hts (inC inM) hown hK hP 0 rfl rfl 12 (by decide) (hq _ wi_478) (fun _ h9 => h9) rfl dM_get_104 ?_
                    refine lv_iload_n hx hb dM_get_107 rfl (lv_at hl 1 rfl) ?_
                    refine tk_iald (n := n) hx hb hK hP 11 3 rfl rfl ex hn (by decide) dM_get_108 ?_
                    refine lv_iload_n hx hb dM_get_109 rfl (lv_at hl 2 rfl) ?_
                    refine lv_aload_n hx hb dM_get_110 rfl (lv_at hl 0 rfl) ?_
                    refine va_get (D := (dC, dI)) (ci := 4) (v := .ref (ad 15)) (C := RM) (T := TM) (N := 24) hx hb hts (inC inM) hown hK hP 0 rfl rfl 17 (by decide) (hq _ wi_483) (fun _ h9 => h9) rfl dM_get_111 ?_
                    refine lv_iload_n hx hb dM_get_114 rfl (lv_at hl 1 rfl) ?_
                    refine tk_iald (n := n) hx hb hK hP 16 3 rfl rfl ex hn (by decide) dM_get_115 ?_
                    refine lv_aload_n hx hb dM_get_116 rfl (lv_at hl 0 rfl) ?_
                    refine va_get (D := (dC, dI)) (ci := 4) (v := .int mnw) (C := RM) (T := TM) (N := 24) hx hb hts (inC inM) hown hK hP 0 rfl rfl 1 (by decide) (hq _ wi_467) (fun _ h9 => h9) rfl dM_get_117 ?_
                    refine vp_callSi (va_Run.run (va_runV (As := [.int (mpg n), .int y, .int (mbs n), .int mnw]) (rest := []) ⟨hx, hb, hml, hown, hts⟩ (c_M_valueOf l dC dI ka h ad 0 mnw mcp mcb mcv mcl mbl mpl mfm mto mfs mls mpg mpn mus mdi mst mbs mhd men mfl mrd mwn mlf (mpg n) y (mbs n) mnw b u eb eu hbu hu) (cwV 4 hts (tw_V wi_561 wi_563 wi_13 wi_28 wi_564) rfl rfl rfl (by decide +kernel) ⟨Nat.le_of_ble_eq_true rfl, Nat.le_of_ble_eq_true rfl⟩) ⟨fun a U g mk q => ⟨q.1, tk_E.call q.2.1, q.2.2⟩, va_recv hK hP (ci := 4) (q0 := 0) rfl rfl, fun U hU hW => ⟨rfl, tk_E.warm hW hE, by rw [hU]; exact hP⟩⟩ rfl rfl hl.1 rfl (lv_room (Nat.le_of_ble_eq_true rfl)) dM_get_120 ⟨Nat.zero_le _, Nat.zero_le _⟩)) (fun r_10 er_10 => ?_)
                    subst er_10
                    exact tk_selx ((if_pos c_7).trans ((if_pos c_8).trans (if_pos c_9))) hJ_6
                  · refine lv_aload_n hx hb dM_get_87 rfl (lv_at hl 0 rfl) ?_
                    refine lv_iload_n hx hb dM_get_88 rfl (lv_at hl 1 rfl) ?_
                    refine vp_callSi (va_Run.run (va_runV (As := [.int x]) (rest := []) ⟨hx, hb, hml, hown, hts⟩ (c_M_framePlace l dC dI ka h ad 0 mnw mcp mcb mcv mcl mbl mpl mfm mto mfs mls mpg mpn mus mdi mst mbs mhd men mfl mrd mwn mlf x n b u ex hn eb eu hbu hu) (cwV 1 hts (tw_V wi_553 wi_555 wi_11 wi_28 wi_556) rfl rfl rfl (by decide +kernel) ⟨Nat.le_of_ble_eq_true rfl, Nat.le_of_ble_eq_true rfl⟩) ⟨fun a U g mk q => ⟨q.1, tk_E.call q.2.1, q.2.2⟩, va_recv hK hP (ci := 4) (q0 := 0) rfl rfl, fun U hU hW => ⟨rfl, tk_E.warm hW hE, by rw [hU]; exact hP⟩⟩ rfl rfl hl.1 rfl (lv_room (Nat.le_of_ble_eq_true rfl)) dM_get_89 ⟨Nat.zero_le _, Nat.zero_le _⟩)) (fun r_11 er_11 => ?_)
                    subst er_11
                    refine lv_iconst (v := 4) hx hb dM_get_92 (by decide) ?_
                    refine lv_iload_n hx hb dM_get_93 rfl (lv_at hl 2 rfl) ?_
                    refine lv_iconst (v := 2) hx hb dM_get_94 (by decide) ?_
                    refine lv_isub hx hb dM_get_95 ?_
                    refine vp_callSi (va_Run.run (va_runS (As := [.int (plcF mcp mcl mpl (mpg n) b (u - b)), .int 4, .int (y - 2)]) (rest := []) ⟨hx, hb, hml, hown, hts⟩ (c_M_part l dC dI ka (plcF mcp mcl mpl (mpg n) b (u - b)) 4 (y - 2)) (cwS 3 hts (tw_S wi_550 wi_551 wi_28 wi_552) rfl rfl rfl (by decide +kernel) ⟨Nat.le_of_ble_eq_true rfl, Nat.le_of_ble_eq_true rfl⟩) ⟨fun a U g mk q => ⟨q.1, tk_E.call q.2.1, q.2.2⟩, fun U hU hW => ⟨rfl, tk_E.warm hW hE, by rw [hU]; exact (fun _ _ h => nomatch h)⟩⟩ rfl rfl hl.1 rfl (lv_room (Nat.le_of_ble_eq_true rfl)) dM_get_96 ⟨Nat.zero_le _, Nat.zero_le _⟩)) (fun r_12 er_12 => ?_)
                    subst er_12
                    refine lv_goto (tgt := 123) hx hb dM_get_99 (by decide) ?_
                    exact tk_selx ((if_pos c_7).trans ((if_pos c_8).trans (if_neg c_9))) hJ_6
                · refine lv_aload_n hx hb dM_get_63 rfl (lv_at hl 0 rfl) ?_
                  refine va_get (D := (dC, dI)) (ci := 4) (v := .ref (ad 14)) (C := RM) (T := TM) (N := 24) hx hb hts (inC inM) hown hK hP 0 rfl rfl 16 (by decide) (hq _ wi_482) (fun _ h9 => h9) rfl dM_get_64 ?_
                  refine lv_iload_n hx hb dM_get_67 rfl (lv_at hl 1 rfl) ?_
                  refine tk_iald (n := n) hx hb hK hP 15 3 rfl rfl ex hn (by decide) dM_get_68 ?_
                  refine lv_iconst (v := 2) hx hb dM_get_69 (by decide) ?_
                  refine lv_iload_n hx hb dM_get_70 rfl (lv_at hl 2 rfl) ?_
                  refine lv_sipush (v := 510) hx hb dM_get_71 (by decide) ?_
                  refine lv_isub hx hb dM_get_74 ?_
                  refine vp_callSi (va_Run.run (va_runS (As := [.int (mst n), .int 2, .int (y - 510)]) (rest := []) ⟨hx, hb, hml, hown, hts⟩ (c_M_part l dC dI ka (mst n) 2 (y - 510)) (cwS 3 hts (tw_S wi_550 wi_551 wi_28 wi_552) rfl rfl rfl (by decide +kernel) ⟨Nat.le_of_ble_eq_true rfl, Nat.le_of_ble_eq_true rfl⟩) ⟨fun a U g mk q => ⟨q.1, tk_E.call q.2.1, q.2.2⟩, fun U hU hW => ⟨rfl, tk_E.warm hW hE, by rw [hU]; exact (fun _ _ h => nomatch h)⟩⟩ rfl rfl hl.1 rfl (lv_room (Nat.le_of_ble_eq_true rfl)) dM_get_75 ⟨Nat.zero_le _, Nat.zero_le _⟩)) (fun r_13 er_13 => ?_)
                  subst er_13
                  refine lv_goto (tgt := 123) hx hb dM_get_78 (by decide) ?_
                  exact tk_selx ((if_pos c_7).trans (if_neg c_8)) hJ_6
              · refine lv_aload_n hx hb dM_get_42 rfl (lv_at hl 0 rfl) ?_
                refine va_get (D := (dC, dI)) (ci := 4) (v := .ref (ad 14)) (C := RM) (T := TM) (N := 24) hx hb hts (inC inM) hown hK hP 0 rfl rfl 16 (by decide) (hq _ wi_482) (fun _ h9 => h9) rfl dM_get_43 ?_
                refine lv_iload_n hx hb dM_get_46 rfl (lv_at hl 1 rfl) ?_
                refine tk_iald (n := n) hx hb hK hP 15 3 rfl rfl ex hn (by decide) dM_get_47 ?_
                refine lv_iconst (v := 2) hx hb dM_get_48 (by decide) ?_
                refine lv_iload_n hx hb dM_get_49 rfl (lv_at hl 2 rfl) ?_
                refine vp_callSi (va_Run.run (va_runS (As := [.int (mst n), .int 2, .int y]) (rest := []) ⟨hx, hb, hml, hown, hts⟩ (c_M_part l dC dI ka (mst n) 2 y) (cwS 3 hts (tw_S wi_550 wi_551 wi_28 wi_552) rfl rfl rfl (by decide +kernel) ⟨Nat.le_of_ble_eq_true rfl, Nat.le_of_ble_eq_true rfl⟩) ⟨fun a U g mk q => ⟨q.1, tk_E.call q.2.1, q.2.2⟩, fun U hU hW => ⟨rfl, tk_E.warm hW hE, by rw [hU]; exact (fun _ _ h => nomatch h)⟩⟩ rfl rfl hl.1 rfl (lv_room (Nat.le_of_ble_eq_true rfl)) dM_get_50 ⟨Nat.zero_le _, Nat.zero_le _⟩)) (fun r_14 er_14 => ?_)
                subst er_14
                refine lv_goto (tgt := 123) hx hb dM_get_53 (by decide) ?_
                exact tk_selx (if_neg c_7) hJ_6
            exact W.iret (v := (if 2 ≤ y then (if y ≤ 509 then (if 6 ≤ y then (valF mcp mcb mcv mbl (mpg n) y b (u - b)) else (((plcF mcp mcl mpl (mpg n) b (u - b)) >>> (((8 * ((4 - 1) - (y - 2))) : Int32) &&& 31)) &&& 255)) else (((mst n) >>> (((8 * ((2 - 1) - (y - 510))) : Int32) &&& 31)) &&& 255)) else (((mst n) >>> (((8 * ((2 - 1) - y)) : Int32) &&& 31)) &&& 255))) hx hb hr (fun t ht hW => ⟨⟨(if 2 ≤ y then (if y ≤ 509 then (if 6 ≤ y then (valF mcp mcb mcv mbl (mpg n) y b (u - b)) else (((plcF mcp mcl mpl (mpg n) b (u - b)) >>> (((8 * ((4 - 1) - (y - 2))) : Int32) &&& 31)) &&& 255)) else (((mst n) >>> (((8 * ((2 - 1) - (y - 510))) : Int32) &&& 31)) &&& 255)) else (((mst n) >>> (((8 * ((2 - 1) - y)) : Int32) &&& 31)) &&& 255)), (), rfl, rfl, by show va_P _ _ _ t.heap; rw [ht]; exact hP⟩, hS.F ht⟩) hS.2.2 dM_get_123
          · exact absurd (by rw [ey]; exact nI_le (b := 511) (by omega) (by decide)) c_5

set_option maxHeartbeats 4000000 in
set_option maxRecDepth 100000 in
theorem c_M_disk_p0 (l : Launch) (dC : Nat → ClassId) (dI : Nat → Nat → Nat) (ka : Nat → ClassId) (sz : Nat) (h : Nat) (ad : Nat → Nat) (mth mnw : Int32) (mcp mcb mcv mcl mbl mpl mfm mto mfs mls mpg mpn mus mdi mst mbs : Nat → Int32) (mhd men mfl mrd mwn mlf : Int32) (x y : Int32) (hx0 : x < 0 ∨ nI 192 ≤ x) : Met l yM_disk wM_disk ({ frames := 1, cells := 0, slots := 0, locals := 20 }) (va_Pc [.ref h, .int x, .int y] (fun U => U.heap.size = sz ∧ tk_E dC dI ka U ∧ va_P (dC, dI) clB (mw h ad ka mth mnw mcp mcb mcv mcl mbl mpl mfm mto mfs mls mpg mpn mus mdi mst mbs mhd men mfl mrd mwn mlf) U.heap ∧ va_D (fun _ => True) (mw h ad ka mth mnw mcp mcb mcv mcl mbl mpl mfm mto mfs mls mpg mpn mus mdi mst mbs mhd men mfl mrd mwn mlf))) (va_Qi (fun (r : Int32) (_ : Unit) => r = -1) (fun _ t => va_P (dC, dI) clB (mw h ad ka 0 mnw mcp mcb mcv mcl mbl mpl mfm mto mfs mls mpg mpn mus mdi mst mbs mhd men mfl mrd mwn mlf) t.heap) (va_A (mw h ad ka mth mnw mcp mcb mcv mcl mbl mpl mfm mto mfs mls mpg mpn mus mdi mst mbs mhd men mfl mrd mwn mlf) sz)) 0 0 (va_A (mw h ad ka mth mnw mcp mcb mcv mcl mbl mpl mfm mto mfs mls mpg mpn mus mdi mst mbs mhd men mfl mrd mwn mlf) sz) := by
  refine Met.ofW (cc := cM_disk) (maxL := 4) (ret := (some .int)) (by decide) rfl ?_
  intro p e s m args below meth c s₁ B hml hv
  obtain ⟨rfl, hsz, hE, hP, hD0⟩ := hv
  have hx := B.exec
  have hb := B.bytes
  have hr := B.returns
  have hts := atoms_spec (ws := wM_disk) B.pre
  have hq : ∀ w ∈ lwg, w.before _ s = true := fun w h => hts w (List.mem_cons_of_mem _ h)
  have hown : s.vm.findClass RM = some m.cls := findClass_of_methodNamed B.named
  have hlocks := B.notSynchronized
  have hK := hE.1
  have hN := hE.2
  subst hsz
  have hD := hD0.self (sz := s.heap.size)
  generalize hAe : va_A (mw h ad ka mth mnw mcp mcb mcv mcl mbl mpl mfm mto mfs mls mpg mpn mus mdi mst mbs mhd men mfl mrd mwn mlf) s.heap.size = A at hD ⊢
  have hA : ∀ q : Nat, s.heap.size ≤ q → A q := fun q h => by rw [← hAe]; exact Or.inr h
  have hS : va_S A s.heap s.heap [] := va_S.rf
  have hDw := hD
  have hP : va_P (dC, dI) clB (mw h ad ka mth mnw mcp mcb mcv mcl mbl mpl mfm mto mfs mls mpg mpn mus mdi mst mbs mhd men mfl mrd mwn mlf) s.heap := hP
  have hl := lv_entry ([.ref h, .int x, .int y]) (n := 4) (Nat.le_of_ble_eq_true rfl)
  rw [lg_entry_eq]
  generalize (lg_sl ([.ref h, .int x, .int y]) ++ List.replicate (4 - (lg_sl ([.ref h, .int x, .int y])).length) Slot.unset).toArray = ls at hl ⊢
  have hl : lv_has ls 4 [(0, .ref h), (1, .int x), (2, .int y)] := hl
  refine lv_aload_n hx hb dM_disk_0 rfl (lv_at hl 0 rfl) ?_
  refine lv_iconst (v := 0) hx hb dM_disk_1 (by decide) ?_
  refine va_put (D := (dC, dI)) (ci := 4) (v := .int 0) (ty := .int) (C := RM) (T := TM) (N := 24) hx hb hts (inC inM) tyM tyM_ok nmM hown hK hP hD hS 0 rfl rfl 0 (by decide) (hq _ wi_466) (fun _ h9 => h9) rfl (by decide +kernel) rfl rfl (Nat.le_of_ble_eq_true rfl) dM_disk_2 (fun H locs hP hD hS => ?_)
  have hP : va_P (dC, dI) clB (mw h ad ka 0 mnw mcp mcb mcv mcl mbl mpl mfm mto mfs mls mpg mpn mus mdi mst mbs mhd men mfl mrd mwn mlf) H := hP
  have hD : va_D A (mw h ad ka 0 mnw mcp mcb mcv mcl mbl mpl mfm mto mfs mls mpg mpn mus mdi mst mbs mhd men mfl mrd mwn mlf) := mw_D hDw
  refine lv_iload_n hx hb dM_disk_5 rfl (lv_at hl 1 rfl) ?_
  refine vp_callSi (va_Run.run (va_runS (As := [.int x]) (rest := []) ⟨hx, hb, hml, hown, hts⟩ (c_M_isPage l dC dI ka x) (cwS 1 hts (tw_S wi_569 wi_570 wi_28 wi_571) rfl rfl rfl (by decide +kernel) ⟨Nat.le_of_ble_eq_true rfl, Nat.le_of_ble_eq_true rfl⟩) ⟨fun a U g mk q => ⟨q.1, tk_E.call q.2.1, q.2.2⟩, fun U hU hW => ⟨rfl, tk_E.warm hW hE, by rw [hU]; exact (fun _ _ h => nomatch h)⟩⟩ rfl rfl hl.1 rfl (lv_room (Nat.le_of_ble_eq_true rfl)) dM_disk_6 ⟨Nat.zero_le _, Nat.zero_le _⟩)) (fun r_1 er_1 => ?_)
  replace er_1 := er_1.trans (tk_is0 (N := 192) hx0)
  subst er_1
  refine lv_if_eq (tgt := 23) hx hb dM_disk_9 (by decide) (fun c_2 => ?_) (fun c_2 => ?_)
  · refine lv_iconst (v := (-1)) hx hb dM_disk_23 (by decide) ?_
    exact W.iret (v := (-1)) hx hb hr (fun t ht hW => ⟨⟨(-1), (), rfl, rfl, by show va_P _ _ _ t.heap; rw [ht]; exact hP⟩, hS.F ht⟩) hS.2.2 dM_disk_24
  · exact absurd c_2 (by decide)

set_option maxHeartbeats 4000000 in
set_option maxRecDepth 100000 in
theorem c_M_disk_b0 (l : Launch) (dC : Nat → ClassId) (dI : Nat → Nat → Nat) (ka : Nat → ClassId) (sz : Nat) (h : Nat) (ad : Nat → Nat) (mth mnw : Int32) (mcp mcb mcv mcl mbl mpl mfm mto mfs mls mpg mpn mus mdi mst mbs : Nat → Int32) (mhd men mfl mrd mwn mlf : Int32) (x y : Int32) (n : Nat) (ex : x = nI n) (hn : n < 192) (hy0 : y < 0 ∨ nI 512 ≤ y) : Met l yM_disk wM_disk ({ frames := 1, cells := 0, slots := 0, locals := 20 }) (va_Pc [.ref h, .int x, .int y] (fun U => U.heap.size = sz ∧ tk_E dC dI ka U ∧ va_P (dC, dI) clB (mw h ad ka mth mnw mcp mcb mcv mcl mbl mpl mfm mto mfs mls mpg mpn mus mdi mst mbs mhd men mfl mrd mwn mlf) U.heap ∧ va_D (fun _ => True) (mw h ad ka mth mnw mcp mcb mcv mcl mbl mpl mfm mto mfs mls mpg mpn mus mdi mst mbs mhd men mfl mrd mwn mlf))) (va_Qi (fun (r : Int32) (_ : Unit) => r = -1) (fun _ t => va_P (dC, dI) clB (mw h ad ka 0 mnw mcp mcb mcv mcl mbl mpl mfm mto mfs mls mpg mpn mus mdi mst mbs mhd men mfl mrd mwn mlf) t.heap) (va_A (mw h ad ka mth mnw mcp mcb mcv mcl mbl mpl mfm mto mfs mls mpg mpn mus mdi mst mbs mhd men mfl mrd mwn mlf) sz)) 0 0 (va_A (mw h ad ka mth mnw mcp mcb mcv mcl mbl mpl mfm mto mfs mls mpg mpn mus mdi mst mbs mhd men mfl mrd mwn mlf) sz) := by
  refine Met.ofW (cc := cM_disk) (maxL := 4) (ret := (some .int)) (by decide) rfl ?_
  intro p e s m args below meth c s₁ B hml hv
  obtain ⟨rfl, hsz, hE, hP, hD0⟩ := hv
  have hx := B.exec
  have hb := B.bytes
  have hr := B.returns
  have hts := atoms_spec (ws := wM_disk) B.pre
  have hq : ∀ w ∈ lwg, w.before _ s = true := fun w h => hts w (List.mem_cons_of_mem _ h)
  have hown : s.vm.findClass RM = some m.cls := findClass_of_methodNamed B.named
  have hlocks := B.notSynchronized
  have hK := hE.1
  have hN := hE.2
  subst hsz
  have hD := hD0.self (sz := s.heap.size)
  generalize hAe : va_A (mw h ad ka mth mnw mcp mcb mcv mcl mbl mpl mfm mto mfs mls mpg mpn mus mdi mst mbs mhd men mfl mrd mwn mlf) s.heap.size = A at hD ⊢
  have hA : ∀ q : Nat, s.heap.size ≤ q → A q := fun q h => by rw [← hAe]; exact Or.inr h
  have hS : va_S A s.heap s.heap [] := va_S.rf
  have hDw := hD
  have hP : va_P (dC, dI) clB (mw h ad ka mth mnw mcp mcb mcv mcl mbl mpl mfm mto mfs mls mpg mpn mus mdi mst mbs mhd men mfl mrd mwn mlf) s.heap := hP
  have hl := lv_entry ([.ref h, .int x, .int y]) (n := 4) (Nat.le_of_ble_eq_true rfl)
  rw [lg_entry_eq]
  generalize (lg_sl ([.ref h, .int x, .int y]) ++ List.replicate (4 - (lg_sl ([.ref h, .int x, .int y])).length) Slot.unset).toArray = ls at hl ⊢
  have hl : lv_has ls 4 [(0, .ref h), (1, .int x), (2, .int y)] := hl
  refine lv_aload_n hx hb dM_disk_0 rfl (lv_at hl 0 rfl) ?_
  refine lv_iconst (v := 0) hx hb dM_disk_1 (by decide) ?_
  refine va_put (D := (dC, dI)) (ci := 4) (v := .int 0) (ty := .int) (C := RM) (T := TM) (N := 24) hx hb hts (inC inM) tyM tyM_ok nmM hown hK hP hD hS 0 rfl rfl 0 (by decide) (hq _ wi_466) (fun _ h9 => h9) rfl (by decide +kernel) rfl rfl (Nat.le_of_ble_eq_true rfl) dM_disk_2 (fun H locs hP hD hS => ?_)
  have hP : va_P (dC, dI) clB (mw h ad ka 0 mnw mcp mcb mcv mcl mbl mpl mfm mto mfs mls mpg mpn mus mdi mst mbs mhd men mfl mrd mwn mlf) H := hP
  have hD : va_D A (mw h ad ka 0 mnw mcp mcb mcv mcl mbl mpl mfm mto mfs mls mpg mpn mus mdi mst mbs mhd men mfl mrd mwn mlf) := mw_D hDw
  refine lv_iload_n hx hb dM_disk_5 rfl (lv_at hl 1 rfl) ?_
  refine vp_callSi (va_Run.run (va_runS (As := [.int x]) (rest := []) ⟨hx, hb, hml, hown, hts⟩ (c_M_isPage l dC dI ka x) (cwS 1 hts (tw_S wi_569 wi_570 wi_28 wi_571) rfl rfl rfl (by decide +kernel) ⟨Nat.le_of_ble_eq_true rfl, Nat.le_of_ble_eq_true rfl⟩) ⟨fun a U g mk q => ⟨q.1, tk_E.call q.2.1, q.2.2⟩, fun U hU hW => ⟨rfl, tk_E.warm hW hE, by rw [hU]; exact (fun _ _ h => nomatch h)⟩⟩ rfl rfl hl.1 rfl (lv_room (Nat.le_of_ble_eq_true rfl)) dM_disk_6 ⟨Nat.zero_le _, Nat.zero_le _⟩)) (fun r_1 er_1 => ?_)
  replace er_1 := er_1.trans (tk_is1 (N := 192) ex hn (by decide))
  subst er_1
  refine lv_if_eq (tgt := 23) hx hb dM_disk_9 (by decide) (fun c_2 => ?_) (fun c_2 => ?_)
  · exact absurd c_2 (by decide)
  · refine lv_iload_n hx hb dM_disk_12 rfl (lv_at hl 2 rfl) ?_
    refine lv_if_lt (tgt := 23) hx hb dM_disk_13 (by decide) (fun c_3 => ?_) (fun c_3 => ?_)
    · refine lv_iconst (v := (-1)) hx hb dM_disk_23 (by decide) ?_
      exact W.iret (v := (-1)) hx hb hr (fun t ht hW => ⟨⟨(-1), (), rfl, rfl, by show va_P _ _ _ t.heap; rw [ht]; exact hP⟩, hS.F ht⟩) hS.2.2 dM_disk_24
    · refine lv_iload_n hx hb dM_disk_16 rfl (lv_at hl 2 rfl) ?_
      refine lv_sipush (v := 511) hx hb dM_disk_17 (by decide) ?_
      refine lv_icmp_le (tgt := 25) hx hb dM_disk_20 (by decide) (fun c_4 => ?_) (fun c_4 => ?_)
      · exact absurd (Int32.le_trans (hy0.resolve_left c_3) c_4) (by decide)
      · refine lv_iconst (v := (-1)) hx hb dM_disk_23 (by decide) ?_
        exact W.iret (v := (-1)) hx hb hr (fun t ht hW => ⟨⟨(-1), (), rfl, rfl, by show va_P _ _ _ t.heap; rw [ht]; exact hP⟩, hS.F ht⟩) hS.2.2 dM_disk_24

set_option maxHeartbeats 4000000 in
set_option maxRecDepth 100000 in
theorem c_M_disk_in (l : Launch) (dC : Nat → ClassId) (dI : Nat → Nat → Nat) (ka : Nat → ClassId) (sz : Nat) (h : Nat) (ad : Nat → Nat) (mth mnw : Int32) (mcp mcb mcv mcl mbl mpl mfm mto mfs mls mpg mpn mus mdi mst mbs : Nat → Int32) (mhd men mfl mrd mwn mlf : Int32) (x y : Int32) (n k b u : Nat) (ex : x = nI n) (hn : n < 192) (ey : y = nI k) (hk : k < 512) (eb : mfm (8 * n + k / 64) = nI b) (eu : mto (8 * n + k / 64) = nI u) (hbu : b ≤ u) (hu : u < 520) : Met l yM_disk wM_disk ({ frames := 1, cells := 0, slots := 0, locals := 26 }) (va_Pc [.ref h, .int x, .int y] (fun U => U.heap.size = sz ∧ tk_E dC dI ka U ∧ va_P (dC, dI) clB (mw h ad ka mth mnw mcp mcb mcv mcl mbl mpl mfm mto mfs mls mpg mpn mus mdi mst mbs mhd men mfl mrd mwn mlf) U.heap ∧ va_D (fun _ => True) (mw h ad ka mth mnw mcp mcb mcv mcl mbl mpl mfm mto mfs mls mpg mpn mus mdi mst mbs mhd men mfl mrd mwn mlf))) (va_Qi (fun (r : Int32) (_ : Unit) => r = (if 2 ≤ y then (if y ≤ 509 then (if 6 ≤ y then (valF mcp mcb mcv mbl x y b (u - b)) else (((plcF mcp mcl mpl x b (u - b)) >>> (((8 * ((4 - 1) - (y - 2))) : Int32) &&& 31)) &&& 255)) else (((mls n) >>> (((8 * ((2 - 1) - (y - 510))) : Int32) &&& 31)) &&& 255)) else (((mfs n) >>> (((8 * ((2 - 1) - y)) : Int32) &&& 31)) &&& 255))) (fun _ t => va_P (dC, dI) clB (mw h ad ka 0 mnw mcp mcb mcv mcl mbl mpl mfm mto mfs mls mpg mpn mus mdi mst mbs mhd men mfl mrd mwn mlf) t.heap) (va_A (mw h ad ka mth mnw mcp mcb mcv mcl mbl mpl mfm mto mfs mls mpg mpn mus mdi mst mbs mhd men mfl mrd mwn mlf) sz)) 0 0 (va_A (mw h ad ka mth mnw mcp mcb mcv mcl mbl mpl mfm mto mfs mls mpg mpn mus mdi mst mbs mhd men mfl mrd mwn mlf) sz) := by
  refine Met.ofW (cc := cM_disk) (maxL := 4) (ret := (some .int)) (by decide) rfl ?_
  intro p e s m args below meth c s₁ B hml hv
  obtain ⟨rfl, hsz, hE, hP, hD0⟩ := hv
  have hx := B.exec
  have hb := B.bytes
  have hr := B.returns
  have hts := atoms_spec (ws := wM_disk) B.pre
  have hq : ∀ w ∈ lwg, w.before _ s = true := fun w h => hts w (List.mem_cons_of_mem _ h)
  have hown : s.vm.findClass RM = some m.cls := findClass_of_methodNamed B.named
  have hlocks := B.notSynchronized
  have hK := hE.1
  have hN := hE.2
  subst hsz
  have hD := hD0.self (sz := s.heap.size)
  generalize hAe : va_A (mw h ad ka mth mnw mcp mcb mcv mcl mbl mpl mfm mto mfs mls mpg mpn mus mdi mst mbs mhd men mfl mrd mwn mlf) s.heap.size = A at hD ⊢
  have hA : ∀ q : Nat, s.heap.size ≤ q → A q := fun q h => by rw [← hAe]; exact Or.inr h
  have hS : va_S A s.heap s.heap [] := va_S.rf
  have hDw := hD
  have hP : va_P (dC, dI) clB (mw h ad ka mth mnw mcp mcb mcv mcl mbl mpl mfm mto mfs mls mpg mpn mus mdi mst mbs mhd men mfl mrd mwn mlf) s.heap := hP
  have hl := lv_entry ([.ref h, .int x, .int y]) (n := 4) (Nat.le_of_ble_eq_true rfl)
  rw [lg_entry_eq]
  generalize (lg_sl ([.ref h, .int x, .int y]) ++ List.replicate (4 - (lg_sl ([.ref h, .int x, .int y])).length) Slot.unset).toArray = ls at hl ⊢
  have hl : lv_has ls 4 [(0, .ref h), (1, .int x), (2, .int y)] := hl
  refine lv_aload_n hx hb dM_disk_0 rfl (lv_at hl 0 rfl) ?_
  refine lv_iconst (v := 0) hx hb dM_disk_1 (by decide) ?_
  refine va_put (D := (dC, dI)) (ci := 4) (v := .int 0) (ty := .int) (C := RM) (T := TM) (N := 24) hx hb hts (inC inM) tyM tyM_ok nmM hown hK hP hD hS 0 rfl rfl 0 (by decide) (hq _ wi_466) (fun _ h9 => h9) rfl (by decide +kernel) rfl rfl (Nat.le_of_ble_eq_true rfl) dM_disk_2 (fun H locs hP hD hS => ?_)
  have hP : va_P (dC, dI) clB (mw h ad ka 0 mnw mcp mcb mcv mcl mbl mpl mfm mto mfs mls mpg mpn mus mdi mst mbs mhd men mfl mrd mwn mlf) H := hP
  have hD : va_D A (mw h ad ka 0 mnw mcp mcb mcv mcl mbl mpl mfm mto mfs mls mpg mpn mus mdi mst mbs mhd men mfl mrd mwn mlf) := mw_D hDw
  refine lv_iload_n hx hb dM_disk_5 rfl (lv_at hl 1 rfl) ?_
  refine vp_callSi (va_Run.run (va_runS (As := [.int x]) (rest := []) ⟨hx, hb, hml, hown, hts⟩ (c_M_isPage l dC dI ka x) (cwS 1 hts (tw_S wi_569 wi_570 wi_28 wi_571) rfl rfl rfl (by decide +kernel) ⟨Nat.le_of_ble_eq_true rfl, Nat.le_of_ble_eq_true rfl⟩) ⟨fun a U g mk q => ⟨q.1, tk_E.call q.2.1, q.2.2⟩, fun U hU hW => ⟨rfl, tk_E.warm hW hE, by rw [hU]; exact (fun _ _ h => nomatch h)⟩⟩ rfl rfl hl.1 rfl (lv_room (Nat.le_of_ble_eq_true rfl)) dM_disk_6 ⟨Nat.zero_le _, Nat.zero_le _⟩)) (fun r_1 er_1 => ?_)
  replace er_1 := er_1.trans (tk_is1 (N := 192) ex hn (by decide))
  subst er_1
  refine lv_if_eq (tgt := 23) hx hb dM_disk_9 (by decide) (fun c_2 => ?_) (fun c_2 => ?_)
  · exact absurd c_2 (by decide)
  · refine lv_iload_n hx hb dM_disk_12 rfl (lv_at hl 2 rfl) ?_
    refine lv_if_lt (tgt := 23) hx hb dM_disk_13 (by decide) (fun c_3 => ?_) (fun c_3 => ?_)
    · exact absurd c_3 (by rw [ey]; exact nI_pos (by omega))
    · refine lv_iload_n hx hb dM_disk_16 rfl (lv_at hl 2 rfl) ?_
      refine lv_sipush (v := 511) hx hb dM_disk_17 (by decide) ?_
      refine lv_icmp_le (tgt := 25) hx hb dM_disk_20 (by decide) (fun c_4 => ?_) (fun c_4 => ?_)
      · refine lv_bipush (v := 8) hx hb dM_disk_25 (by decide) ?_
        refine lv_iload_n hx hb dM_disk_27 rfl (lv_at hl 1 rfl) ?_
        refine lv_imul hx hb dM_disk_28 ?_
        refine lv_iload_n hx hb dM_disk_29 rfl (lv_at hl 2 rfl) ?_
        refine lv_bipush (v := 64) hx hb dM_disk_30 (by decide) ?_
        refine lv_idiv hx hb dM_disk_32 (by decide) ?_
        refine lv_iadd hx hb dM_disk_33 ?_
        refine lv_istore_n (lv' := [(3, .int ((8 * x) + (y / 64))), (0, .ref h), (1, .int x), (2, .int y)]) hx hb dM_disk_34 rfl hl (by decide) rfl (fun ls hl => ?_)
        refine tk_sel (g1 := F0 m 130 ls (.int (if 2 ≤ y then (if y ≤ 509 then (if 6 ≤ y then (valF mcp mcb mcv mbl x y b (u - b)) else (((plcF mcp mcl mpl x b (u - b)) >>> (((8 * ((4 - 1) - (y - 2))) : Int32) &&& 31)) &&& 255)) else (((mls n) >>> (((8 * ((2 - 1) - (y - 510))) : Int32) &&& 31)) &&& 255)) else (((mfs n) >>> (((8 * ((2 - 1) - y)) : Int32) &&& 31)) &&& 255)) :: [])) (fun hJ_5 => ?_) ?_
        · refine lv_iload_n hx hb dM_disk_35 rfl (lv_at hl 3 rfl) ?_
          refine lv_iconst (v := 2) hx hb dM_disk_36 (by decide) ?_
          refine lv_icmp_ge (tgt := 54) hx hb dM_disk_37 (by decide) (fun c_6 => ?_) (fun c_6 => ?_)
          · refine lv_iload_n hx hb dM_disk_54 rfl (lv_at hl 3 rfl) ?_
            refine lv_sipush (v := 509) hx hb dM_disk_55 (by decide) ?_
            refine lv_icmp_le (tgt := 79) hx hb dM_disk_58 (by decide) (fun c_7 => ?_) (fun c_7 => ?_)
            · refine lv_iload_n hx hb dM_disk_79 rfl (lv_at hl 3 rfl) ?_
              refine lv_bipush (v := 6) hx hb dM_disk_80 (by decide) ?_
              refine lv_icmp_ge (tgt := 112) hx hb dM_disk_82 (by decide) (fun c_8 => ?_) (fun c_8 => ?_)
              · refine lv_aload_n hx hb dM_disk_112 rfl (lv_at hl 1 rfl) ?_
                refine lv_iload_n hx hb dM_disk_113 rfl (lv_at hl 2 rfl) ?_
                refine lv_iload_n hx hb dM_disk_114 rfl (lv_at hl 3 rfl) ?_
                refine lv_aload_n hx hb dM_disk_115 rfl (lv_at hl 1 rfl) ?_
                refine va_get (D := (dC, dI)) (ci := 4) (v := .ref (ad 6)) (C := RM) (T := TM) (N := 24) hx hb hts (inC inM) hown hK hP 0 rfl rfl 8 (by decide) (hq _ wi_474) (fun _ h9 => h9) rfl dM_disk_116 ?_
                refine lv_iload_n hx hb dM_disk_119 rfl (lv_at hl 0 rfl) ?_
                refine tk_sald (n := (8 * n + k / 64)) hx hb hK hP 7 2 rfl rfl (by rw [ex, ey]; exact sec_ix (by omega)) (by omega) (by decide) dM_disk_120 ?_
                refine lv_aload_n hx hb dM_disk_121 rfl (lv_at hl 1 rfl) ?_
                refine va_get (D := (dC, dI)) (ci := 4) (v := .ref (ad 7)) (C := RM) (T := TM) (N := 24) hx hb hts (inC inM) hown hK hP 0 rfl rfl 9 (by decide) (hq _ wi_475) (fun _ h9 => h9) rfl dM_disk_122 ?_
                refine lv_iload_n hx hb dM_disk_125 rfl (lv_at hl 0 rfl) ?_
                refine tk_sald (n := (8 * n + k / 64)) hx hb hK hP 8 2 rfl rfl (by rw [ex, ey]; exact sec_ix (by omega)) (by omega) (by decide) dM_disk_126 ?_
                refine vp_callSi (va_Run.run (va_runV (As := [.int x, .int y, .int (mfm (8 * n + k / 64)), .int (mto (8 * n + k / 64))]) (rest := []) ⟨hx, hb, hml, hown, hts⟩ (c_M_valueOf l dC dI ka h ad 0 mnw mcp mcb mcv mcl mbl mpl mfm mto mfs mls mpg mpn mus mdi mst mbs mhd men mfl mrd mwn mlf x y (mfm (8 * n + k / 64)) (mto (8 * n + k / 64)) b u eb eu hbu hu) (cwV 4 hts (tw_V wi_561 wi_563 wi_13 wi_28 wi_564) rfl rfl rfl (by decide +kernel) ⟨Nat.le_of_ble_eq_true rfl, Nat.le_of_ble_eq_true rfl⟩) ⟨fun a U g mk q => ⟨q.1, tk_E.call q.2.1, q.2.2⟩, va_recv hK hP (ci := 4) (q0 := 0) rfl rfl, fun U hU hW => ⟨rfl, tk_E.warm hW hE, by rw [hU]; exact hP⟩⟩ rfl rfl hl.1 rfl (lv_room (Nat.le_of_ble_eq_true rfl)) dM_disk_127 ⟨Nat.zero_le _, Nat.zero_le _⟩)) (fun r_9 er_9 => ?_)
                subst er_9
                exact tk_selx ((if_pos c_6).trans ((if_pos c_7).trans (if_pos c_8))) hJ_5
              · refine lv_aload_n hx hb dM_disk_85 rfl (lv_at hl 1 rfl) ?_
                refine lv_iload_n hx hb dM_disk_86 rfl (lv_at hl 2 rfl) ?_
                refine lv_aload_n hx hb dM_disk_87 rfl (lv_at hl 1 rfl) ?_
                refine va_get (D := (dC, dI)) (ci := 4) (v := .ref (ad 6)) (C := RM) (T := TM) (N := 24) hx hb hts (inC inM) hown hK hP 0 rfl rfl 8 (by decide) (hq _ wi_474) (fun _ h9 => h9) rfl dM_disk_88 ?_
                refine lv_iload_n hx hb dM_disk_91 rfl (lv_at hl 0 rfl) ?_
                refine tk_sald (n := (8 * n + k / 64)) hx hb hK hP 7 2 rfl rfl (by rw [ex, ey]; exact sec_ix (by omega)) (by omega) (by decide) dM_disk_92 ?_
                refine lv_aload_n hx hb dM_disk_93 rfl (lv_at hl 1 rfl) ?_
                refine va_get (D := (dC, dI)) (ci := 4) (v := .ref (ad 7)) (C := RM) (T := TM) (N := 24) hx hb hts (inC inM) hown hK hP 0 rfl rfl 9 (by decide) (hq _ wi_475) (fun _ h9 => h9) rfl dM_disk_94 ?_
                refine lv_iload_n hx hb dM_disk_97 rfl (lv_at hl 0 rfl) ?_
                refine tk_sald (n := (8 * n + k / 64)) hx hb hK hP 8 2 rfl rfl (by rw [ex, ey]; exact sec_ix (by omega)) (by omega) (by decide) dM_disk_98 ?_
                refine vp_callSi (va_Run.run (va_runV (As := [.int x, .int (mfm (8 * n + k / 64)), .int (mto (8 * n + k / 64))]) (rest := []) ⟨hx, hb, hml, hown, hts⟩ (c_M_placeOf l dC dI ka h ad 0 mnw mcp mcb mcv mcl mbl mpl mfm mto mfs mls mpg mpn mus mdi mst mbs mhd men mfl mrd mwn mlf x (mfm (8 * n + k / 64)) (mto (8 * n + k / 64)) b u eb eu hbu hu) (cwV 3 hts (tw_V wi_557 wi_559 wi_12 wi_28 wi_560) rfl rfl rfl (by decide +kernel) ⟨Nat.le_of_ble_eq_true rfl, Nat.le_of_ble_eq_true rfl⟩) ⟨fun a U g mk q => ⟨q.1, tk_E.call q.2.1, q.2.2⟩, va_recv hK hP (ci := 4) (q0 := 0) rfl rfl, fun U hU hW => ⟨rfl, tk_E.warm hW hE, by rw [hU]; exact hP⟩⟩ rfl rfl hl.1 rfl (lv_room (Nat.le_of_ble_eq_true rfl)) dM_disk_99 ⟨Nat.zero_le _, Nat.zero_le _⟩)) (fun r_10 er_10 => ?_)
                subst er_10
                refine lv_iconst (v := 4) hx hb dM_disk_102 (by decide) ?_
                refine lv_iload_n hx hb dM_disk_103 rfl (lv_at hl 3 rfl) ?_
                refine lv_iconst (v := 2) hx hb dM_disk_104 (by decide) ?_
                refine lv_isub hx hb dM_disk_105 ?_
                refine vp_callSi (va_Run.run (va_runS (As := [.int (plcF mcp mcl mpl x b (u - b)), .int 4, .int (y - 2)]) (rest := []) ⟨hx, hb, hml, hown, hts⟩ (c_M_part l dC dI ka (plcF mcp mcl mpl x b (u - b)) 4 (y - 2)) (cwS 3 hts (tw_S wi_550 wi_551 wi_28 wi_552) rfl rfl rfl (by decide +kernel) ⟨Nat.le_of_ble_eq_true rfl, Nat.le_of_ble_eq_true rfl⟩) ⟨fun a U g mk q => ⟨q.1, tk_E.call q.2.1, q.2.2⟩, fun U hU hW => ⟨rfl, tk_E.warm hW hE, by rw [hU]; exact (fun _ _ h => nomatch h)⟩⟩ rfl rfl hl.1 rfl (lv_room (Nat.le_of_ble_eq_true rfl)) dM_disk_106 ⟨Nat.zero_le _, Nat.zero_le _⟩)) (fun r_11 er_11 => ?_)
                subst er_11
                refine lv_goto (tgt := 130) hx hb dM_disk_109 (by decide) ?_
                exact tk_selx ((if_pos c_6).trans ((if_pos c_7).trans (if_neg c_8))) hJ_5
            · refine lv_aload_n hx hb dM_disk_61 rfl (lv_at hl 1 rfl) ?_
              refine va_get (D := (dC, dI)) (ci := 4) (v := .ref (ad 9)) (C := RM) (T := TM) (N := 24) hx hb hts (inC inM) hown hK hP 0 rfl rfl 11 (by decide) (hq _ wi_477) (fun _ h9 => h9) rfl dM_disk_62 ?_
              refine lv_iload_n hx hb dM_disk_65 rfl (lv_at hl 2 rfl) ?_
              refine tk_iald (n := n) hx hb hK hP 10 3 rfl rfl ex hn (by decide) dM_disk_66 ?_
              refine lv_iconst (v := 2) hx hb dM_disk_67 (by decide) ?_
              refine lv_iload_n hx hb dM_disk_68 rfl (lv_at hl 3 rfl) ?_
              refine lv_sipush (v := 510) hx hb dM_disk_69 (by decide) ?_
              refine lv_isub hx hb dM_disk_72 ?_
              refine vp_callSi (va_Run.run (va_runS (As := [.int (mls n), .int 2, .int (y - 510)]) (rest := []) ⟨hx, hb, hml, hown, hts⟩ (c_M_part l dC dI ka (mls n) 2 (y - 510)) (cwS 3 hts (tw_S wi_550 wi_551 wi_28 wi_552) rfl rfl rfl (by decide +kernel) ⟨Nat.le_of_ble_eq_true rfl, Nat.le_of_ble_eq_true rfl⟩) ⟨fun a U g mk q => ⟨q.1, tk_E.call q.2.1, q.2.2⟩, fun U hU hW => ⟨rfl, tk_E.warm hW hE, by rw [hU]; exact (fun _ _ h => nomatch h)⟩⟩ rfl rfl hl.1 rfl (lv_room (Nat.le_of_ble_eq_true rfl)) dM_disk_73 ⟨Nat.zero_le _, Nat.zero_le _⟩)) (fun r_12 er_12 => ?_)
              subst er_12
              refine lv_goto (tgt := 130) hx hb dM_disk_76 (by decide) ?_
              exact tk_selx ((if_pos c_6).trans (if_neg c_7)) hJ_5
          · refine lv_aload_n hx hb dM_disk_40 rfl (lv_at hl 1 rfl) ?_
            refine va_get (D := (dC, dI)) (ci := 4) (v := .ref (ad 8)) (C := RM) (T := TM) (N := 24) hx hb hts (inC inM) hown hK hP 0 rfl rfl 10 (by decide) (hq _ wi_476) (fun _ h9 => h9) rfl dM_disk_41 ?_
            refine lv_iload_n hx hb dM_disk_44 rfl (lv_at hl 2 rfl) ?_
            refine tk_iald (n := n) hx hb hK hP 9 3 rfl rfl ex hn (by decide) dM_disk_45 ?_
            refine lv_iconst (v := 2) hx hb dM_disk_46 (by decide) ?_
            refine lv_iload_n hx hb dM_disk_47 rfl (lv_at hl 3 rfl) ?_
            refine vp_callSi (va_Run.run (va_runS (As := [.int (mfs n), .int 2, .int y]) (rest := []) ⟨hx, hb, hml, hown, hts⟩ (c_M_part l dC dI ka (mfs n) 2 y) (cwS 3 hts (tw_S wi_550 wi_551 wi_28 wi_552) rfl rfl rfl (by decide +kernel) ⟨Nat.le_of_ble_eq_true rfl, Nat.le_of_ble_eq_true rfl⟩) ⟨fun a U g mk q => ⟨q.1, tk_E.call q.2.1, q.2.2⟩, fun U hU hW => ⟨rfl, tk_E.warm hW hE, by rw [hU]; exact (fun _ _ h => nomatch h)⟩⟩ rfl rfl hl.1 rfl (lv_room (Nat.le_of_ble_eq_true rfl)) dM_disk_48 ⟨Nat.zero_le _, Nat.zero_le _⟩)) (fun r_13 er_13 => ?_)
            subst er_13
            refine lv_goto (tgt := 130) hx hb dM_disk_51 (by decide) ?_
            exact tk_selx (if_neg c_6) hJ_5
        exact W.iret (v := (if 2 ≤ y then (if y ≤ 509 then (if 6 ≤ y then (valF mcp mcb mcv mbl x y b (u - b)) else (((plcF mcp mcl mpl x b (u - b)) >>> (((8 * ((4 - 1) - (y - 2))) : Int32) &&& 31)) &&& 255)) else (((mls n) >>> (((8 * ((2 - 1) - (y - 510))) : Int32) &&& 31)) &&& 255)) else (((mfs n) >>> (((8 * ((2 - 1) - y)) : Int32) &&& 31)) &&& 255))) hx hb hr (fun t ht hW => ⟨⟨(if 2 ≤ y then (if y ≤ 509 then (if 6 ≤ y then (valF mcp mcb mcv mbl x y b (u - b)) else (((plcF mcp mcl mpl x b (u - b)) >>> (((8 * ((4 - 1) - (y - 2))) : Int32) &&& 31)) &&& 255)) else (((mls n) >>> (((8 * ((2 - 1) - (y - 510))) : Int32) &&& 31)) &&& 255)) else (((mfs n) >>> (((8 * ((2 - 1) - y)) : Int32) &&& 31)) &&& 255)), (), rfl, rfl, by show va_P _ _ _ t.heap; rw [ht]; exact hP⟩, hS.F ht⟩) hS.2.2 dM_disk_130
      · exact absurd (by rw [ey]; exact nI_le (b := 511) (by omega) (by decide)) c_4

set_option maxHeartbeats 4000000 in
set_option maxRecDepth 100000 in
theorem c_M_torn_p0 (l : Launch) (dC : Nat → ClassId) (dI : Nat → Nat → Nat) (ka : Nat → ClassId) (sz : Nat) (h : Nat) (ad : Nat → Nat) (mth mnw : Int32) (mcp mcb mcv mcl mbl mpl mfm mto mfs mls mpg mpn mus mdi mst mbs : Nat → Int32) (mhd men mfl mrd mwn mlf : Int32) (x : Int32) (hx0 : x < 0 ∨ nI 192 ≤ x) : Met l yM_torn wM_torn ({ frames := 1, cells := 0, slots := 0, locals := 20 }) (va_Pc [.ref h, .int x] (fun U => U.heap.size = sz ∧ tk_E dC dI ka U ∧ va_P (dC, dI) clB (mw h ad ka mth mnw mcp mcb mcv mcl mbl mpl mfm mto mfs mls mpg mpn mus mdi mst mbs mhd men mfl mrd mwn mlf) U.heap ∧ va_D (fun _ => True) (mw h ad ka mth mnw mcp mcb mcv mcl mbl mpl mfm mto mfs mls mpg mpn mus mdi mst mbs mhd men mfl mrd mwn mlf))) (va_Qi (fun (r : Int32) (_ : Unit) => r = 0) (fun _ t => va_P (dC, dI) clB (mw h ad ka 0 mnw mcp mcb mcv mcl mbl mpl mfm mto mfs mls mpg mpn mus mdi mst mbs mhd men mfl mrd mwn mlf) t.heap) (va_A (mw h ad ka mth mnw mcp mcb mcv mcl mbl mpl mfm mto mfs mls mpg mpn mus mdi mst mbs mhd men mfl mrd mwn mlf) sz)) 0 0 (va_A (mw h ad ka mth mnw mcp mcb mcv mcl mbl mpl mfm mto mfs mls mpg mpn mus mdi mst mbs mhd men mfl mrd mwn mlf) sz) := by
  refine Met.ofW (cc := cM_torn) (maxL := 2) (ret := (some .boolean)) (by decide) rfl ?_
  intro p e s m args below meth c s₁ B hml hv
  obtain ⟨rfl, hsz, hE, hP, hD0⟩ := hv
  have hx := B.exec
  have hb := B.bytes
  have hr := B.returns
  have hts := atoms_spec (ws := wM_torn) B.pre
  have hq : ∀ w ∈ lwg, w.before _ s = true := fun w h => hts w (List.mem_cons_of_mem _ h)
  have hown : s.vm.findClass RM = some m.cls := findClass_of_methodNamed B.named
  have hlocks := B.notSynchronized
  have hK := hE.1
  have hN := hE.2
  subst hsz
  have hD := hD0.self (sz := s.heap.size)
  generalize hAe : va_A (mw h ad ka mth mnw mcp mcb mcv mcl mbl mpl mfm mto mfs mls mpg mpn mus mdi mst mbs mhd men mfl mrd mwn mlf) s.heap.size = A at hD ⊢
  have hA : ∀ q : Nat, s.heap.size ≤ q → A q := fun q h => by rw [← hAe]; exact Or.inr h
  have hS : va_S A s.heap s.heap [] := va_S.rf
  have hDw := hD
  have hP : va_P (dC, dI) clB (mw h ad ka mth mnw mcp mcb mcv mcl mbl mpl mfm mto mfs mls mpg mpn mus mdi mst mbs mhd men mfl mrd mwn mlf) s.heap := hP
  have hl := lv_entry ([.ref h, .int x]) (n := 2) (Nat.le_of_ble_eq_true rfl)
  rw [lg_entry_eq]
  generalize (lg_sl ([.ref h, .int x]) ++ List.replicate (2 - (lg_sl ([.ref h, .int x])).length) Slot.unset).toArray = ls at hl ⊢
  have hl : lv_has ls 2 [(0, .ref h), (1, .int x)] := hl
  refine lv_aload_n hx hb dM_torn_0 rfl (lv_at hl 0 rfl) ?_
  refine lv_iconst (v := 0) hx hb dM_torn_1 (by decide) ?_
  refine va_put (D := (dC, dI)) (ci := 4) (v := .int 0) (ty := .int) (C := RM) (T := TM) (N := 24) hx hb hts (inC inM) tyM tyM_ok nmM hown hK hP hD hS 0 rfl rfl 0 (by decide) (hq _ wi_466) (fun _ h9 => h9) rfl (by decide +kernel) rfl rfl (Nat.le_of_ble_eq_true rfl) dM_torn_2 (fun H locs hP hD hS => ?_)
  have hP : va_P (dC, dI) clB (mw h ad ka 0 mnw mcp mcb mcv mcl mbl mpl mfm mto mfs mls mpg mpn mus mdi mst mbs mhd men mfl mrd mwn mlf) H := hP
  have hD : va_D A (mw h ad ka 0 mnw mcp mcb mcv mcl mbl mpl mfm mto mfs mls mpg mpn mus mdi mst mbs mhd men mfl mrd mwn mlf) := mw_D hDw
  refine lv_iload_n hx hb dM_torn_5 rfl (lv_at hl 1 rfl) ?_
  refine vp_callSi (va_Run.run (va_runS (As := [.int x]) (rest := []) ⟨hx, hb, hml, hown, hts⟩ (c_M_isPage l dC dI ka x) (cwS 1 hts (tw_S wi_569 wi_570 wi_28 wi_571) rfl rfl rfl (by decide +kernel) ⟨Nat.le_of_ble_eq_true rfl, Nat.le_of_ble_eq_true rfl⟩) ⟨fun a U g mk q => ⟨q.1, tk_E.call q.2.1, q.2.2⟩, fun U hU hW => ⟨rfl, tk_E.warm hW hE, by rw [hU]; exact (fun _ _ h => nomatch h)⟩⟩ rfl rfl hl.1 rfl (lv_room (Nat.le_of_ble_eq_true rfl)) dM_torn_6 ⟨Nat.zero_le _, Nat.zero_le _⟩)) (fun r_1 er_1 => ?_)
  replace er_1 := er_1.trans (tk_is0 (N := 192) hx0)
  subst er_1
  refine lv_if_eq (tgt := 24) hx hb dM_torn_9 (by decide) (fun c_2 => ?_) (fun c_2 => ?_)
  · refine lv_iconst (v := 0) hx hb dM_torn_24 (by decide) ?_
    exact W.zret (v := 0) (ty := .boolean) hx hb hr rfl (fun t ht hW => ⟨⟨0, (), rfl, rfl, by show va_P _ _ _ t.heap; rw [ht]; exact hP⟩, hS.F ht⟩) hS.2.2 dM_torn_25
  · exact absurd c_2 (by decide)

set_option maxHeartbeats 4000000 in
set_option maxRecDepth 100000 in
theorem c_M_torn_in (l : Launch) (dC : Nat → ClassId) (dI : Nat → Nat → Nat) (ka : Nat → ClassId) (sz : Nat) (h : Nat) (ad : Nat → Nat) (mth mnw : Int32) (mcp mcb mcv mcl mbl mpl mfm mto mfs mls mpg mpn mus mdi mst mbs : Nat → Int32) (mhd men mfl mrd mwn mlf : Int32) (x : Int32) (n : Nat) (ex : x = nI n) (hn : n < 192) : Met l yM_torn wM_torn ({ frames := 1, cells := 0, slots := 0, locals := 21 }) (va_Pc [.ref h, .int x] (fun U => U.heap.size = sz ∧ tk_E dC dI ka U ∧ va_P (dC, dI) clB (mw h ad ka mth mnw mcp mcb mcv mcl mbl mpl mfm mto mfs mls mpg mpn mus mdi mst mbs mhd men mfl mrd mwn mlf) U.heap ∧ va_D (fun _ => True) (mw h ad ka mth mnw mcp mcb mcv mcl mbl mpl mfm mto mfs mls mpg mpn mus mdi mst mbs mhd men mfl mrd mwn mlf))) (va_Qi (fun (r : Int32) (_ : Unit) => r = (if mfs n = mls n then 0 else 1)) (fun _ t => va_P (dC, dI) clB (mw h ad ka 0 mnw mcp mcb mcv mcl mbl mpl mfm mto mfs mls mpg mpn mus mdi mst mbs mhd men mfl mrd mwn mlf) t.heap) (va_A (mw h ad ka mth mnw mcp mcb mcv mcl mbl mpl mfm mto mfs mls mpg mpn mus mdi mst mbs mhd men mfl mrd mwn mlf) sz)) 0 0 (va_A (mw h ad ka mth mnw mcp mcb mcv mcl mbl mpl mfm mto mfs mls mpg mpn mus mdi mst mbs mhd men mfl mrd mwn mlf) sz) := by
  refine Met.ofW (cc := cM_torn) (maxL := 2) (ret := (some .boolean)) (by decide) rfl ?_
  intro p e s m args below meth c s₁ B hml hv
  obtain ⟨rfl, hsz, hE, hP, hD0⟩ := hv
  have hx := B.exec
  have hb := B.bytes
  have hr := B.returns
  have hts := atoms_spec (ws := wM_torn) B.pre
  have hq : ∀ w ∈ lwg, w.before _ s = true := fun w h => hts w (List.mem_cons_of_mem _ h)
  have hown : s.vm.findClass RM = some m.cls := findClass_of_methodNamed B.named
  have hlocks := B.notSynchronized
  have hK := hE.1
  have hN := hE.2
  subst hsz
  have hD := hD0.self (sz := s.heap.size)
  generalize hAe : va_A (mw h ad ka mth mnw mcp mcb mcv mcl mbl mpl mfm mto mfs mls mpg mpn mus mdi mst mbs mhd men mfl mrd mwn mlf) s.heap.size = A at hD ⊢
  have hA : ∀ q : Nat, s.heap.size ≤ q → A q := fun q h => by rw [← hAe]; exact Or.inr h
  have hS : va_S A s.heap s.heap [] := va_S.rf
  have hDw := hD
  have hP : va_P (dC, dI) clB (mw h ad ka mth mnw mcp mcb mcv mcl mbl mpl mfm mto mfs mls mpg mpn mus mdi mst mbs mhd men mfl mrd mwn mlf) s.heap := hP
  have hl := lv_entry ([.ref h, .int x]) (n := 2) (Nat.le_of_ble_eq_true rfl)
  rw [lg_entry_eq]
  generalize (lg_sl ([.ref h, .int x]) ++ List.replicate (2 - (lg_sl ([.ref h, .int x])).length) Slot.unset).toArray = ls at hl ⊢
  have hl : lv_has ls 2 [(0, .ref h), (1, .int x)] := hl
  refine lv_aload_n hx hb dM_torn_0 rfl (lv_at hl 0 rfl) ?_
  refine lv_iconst (v := 0) hx hb dM_torn_1 (by decide) ?_
  refine va_put (D := (dC, dI)) (ci := 4) (v := .int 0) (ty := .int) (C := RM) (T := TM) (N := 24) hx hb hts (inC inM) tyM tyM_ok nmM hown hK hP hD hS 0 rfl rfl 0 (by decide) (hq _ wi_466) (fun _ h9 => h9) rfl (by decide +kernel) rfl rfl (Nat.le_of_ble_eq_true rfl) dM_torn_2 (fun H locs hP hD hS => ?_)
  have hP : va_P (dC, dI) clB (mw h ad ka 0 mnw mcp mcb mcv mcl mbl mpl mfm mto mfs mls mpg mpn mus mdi mst mbs mhd men mfl mrd mwn mlf) H := hP
  have hD : va_D A (mw h ad ka 0 mnw mcp mcb mcv mcl mbl mpl mfm mto mfs mls mpg mpn mus mdi mst mbs mhd men mfl mrd mwn mlf) := mw_D hDw
  refine lv_iload_n hx hb dM_torn_5 rfl (lv_at hl 1 rfl) ?_
  refine vp_callSi (va_Run.run (va_runS (As := [.int x]) (rest := []) ⟨hx, hb, hml, hown, hts⟩ (c_M_isPage l dC dI ka x) (cwS 1 hts (tw_S wi_569 wi_570 wi_28 wi_571) rfl rfl rfl (by decide +kernel) ⟨Nat.le_of_ble_eq_true rfl, Nat.le_of_ble_eq_true rfl⟩) ⟨fun a U g mk q => ⟨q.1, tk_E.call q.2.1, q.2.2⟩, fun U hU hW => ⟨rfl, tk_E.warm hW hE, by rw [hU]; exact (fun _ _ h => nomatch h)⟩⟩ rfl rfl hl.1 rfl (lv_room (Nat.le_of_ble_eq_true rfl)) dM_torn_6 ⟨Nat.zero_le _, Nat.zero_le _⟩)) (fun r_1 er_1 => ?_)
  replace er_1 := er_1.trans (tk_is1 (N := 192) ex hn (by decide))
  subst er_1
  refine lv_if_eq (tgt := 24) hx hb dM_torn_9 (by decide) (fun c_2 => ?_) (fun c_2 => ?_)
  · exact absurd c_2 (by decide)
  · refine lv_aload_n hx hb dM_torn_12 rfl (lv_at hl 0 rfl) ?_
    refine lv_iload_n hx hb dM_torn_13 rfl (lv_at hl 1 rfl) ?_
    refine vp_callSi (va_Run.run (va_runV (As := [.int x]) (rest := []) ⟨hx, hb, hml, hown, hts⟩ (c_M_isTorn l dC dI ka h ad 0 mnw mcp mcb mcv mcl mbl mpl mfm mto mfs mls mpg mpn mus mdi mst mbs mhd men mfl mrd mwn mlf x n ex hn) (cwV 1 hts (tw_V wi_576 wi_578 wi_14 wi_28 wi_579) rfl rfl rfl (by decide +kernel) ⟨Nat.le_of_ble_eq_true rfl, Nat.le_of_ble_eq_true rfl⟩) ⟨fun a U g mk q => ⟨q.1, tk_E.call q.2.1, q.2.2⟩, va_recv hK hP (ci := 4) (q0 := 0) rfl rfl, fun U hU hW => ⟨rfl, tk_E.warm hW hE, by rw [hU]; exact hP⟩⟩ rfl rfl hl.1 rfl (lv_room (Nat.le_of_ble_eq_true rfl)) dM_torn_14 ⟨Nat.zero_le _, Nat.zero_le _⟩)) (fun r_3 er_3 => ?_)
    subst er_3
    refine lv_if_eq (tgt := 24) hx hb dM_torn_17 (by decide) (fun c_4 => ?_) (fun c_4 => ?_)
    · refine lv_iconst (v := 0) hx hb dM_torn_24 (by decide) ?_
      exact W.zret (v := 0) (ty := .boolean) hx hb hr rfl (fun t ht hW => ⟨⟨0, (), rfl, (if_pos (tk_b0 c_4)).symm, by show va_P _ _ _ t.heap; rw [ht]; exact hP⟩, hS.F ht⟩) hS.2.2 dM_torn_25
    · refine lv_iconst (v := 1) hx hb dM_torn_20 (by decide) ?_
      refine lv_goto (tgt := 25) hx hb dM_torn_21 (by decide) ?_
      exact W.zret (v := 1) (ty := .boolean) hx hb hr rfl (fun t ht hW => ⟨⟨1, (), rfl, (if_neg (tk_b1 c_4)).symm, by show va_P _ _ _ t.heap; rw [ht]; exact hP⟩, hS.F ht⟩) hS.2.2 dM_torn_25

set_option maxHeartbeats 4000000 in
set_option maxRecDepth 100000 in
theorem c_M_frameOf (l : Launch) (dC : Nat → ClassId) (dI : Nat → Nat → Nat) (ka : Nat → ClassId) (h : Nat) (ad : Nat → Nat) (mth mnw : Int32) (mcp mcb mcv mcl mbl mpl mfm mto mfs mls mpg mpn mus mdi mst mbs : Nat → Int32) (mhd men mfl mrd mwn mlf : Int32) (x : Int32) : Met l yM_frameOf wM_frameOf ({ frames := 0, cells := 0, slots := 0, locals := 0 }) (va_Pc [.ref h, .int x] (fun U => tk_E dC dI ka U ∧ va_P (dC, dI) clB (mw h ad ka mth mnw mcp mcb mcv mcl mbl mpl mfm mto mfs mls mpg mpn mus mdi mst mbs mhd men mfl mrd mwn mlf) U.heap)) (vp_Si (fun r => r = foM mpg x 12)) 0 0 (fun _ => False) := by
  refine Met.ofW (cc := cM_frameOf) (maxL := 4) (ret := (some .int)) (by decide) rfl ?_
  intro p e s m args below meth c s₁ B hml hv
  obtain ⟨rfl, hE, hP⟩ := hv
  have hx := B.exec
  have hb := B.bytes
  have hr := B.returns
  have hts := atoms_spec (ws := wM_frameOf) B.pre
  have hq : ∀ w ∈ lwg, w.before _ s = true := fun w h => hts w (List.mem_cons_of_mem _ h)
  have hown : s.vm.findClass RM = some m.cls := findClass_of_methodNamed B.named
  have hlocks := B.notSynchronized
  have hK := hE.1
  have hN := hE.2
  have hP : va_P (dC, dI) clB (mw h ad ka mth mnw mcp mcb mcv mcl mbl mpl mfm mto mfs mls mpg mpn mus mdi mst mbs mhd men mfl mrd mwn mlf) s.heap := hP
  have hl := lv_entry ([.ref h, .int x]) (n := 4) (Nat.le_of_ble_eq_true rfl)
  rw [lg_entry_eq]
  generalize (lg_sl ([.ref h, .int x]) ++ List.replicate (4 - (lg_sl ([.ref h, .int x])).length) Slot.unset).toArray = ls at hl ⊢
  have hl : lv_has ls 4 [(0, .ref h), (1, .int x)] := hl
  refine lv_iconst (v := (-1)) hx hb dM_frameOf_0 (by decide) ?_
  refine lv_istore_n (lv' := [(2, .int (-1)), (0, .ref h), (1, .int x)]) hx hb dM_frameOf_1 rfl hl (by decide) rfl (fun ls hl => ?_)
  refine lv_iconst (v := 0) hx hb dM_frameOf_2 (by decide) ?_
  refine lv_istore_n (lv' := [(3, .int 0), (2, .int (-1)), (0, .ref h), (1, .int x)]) hx hb dM_frameOf_3 rfl hl (by decide) rfl (fun ls hl => ?_)
  refine tk_loop 4 (fun (n : Nat) (z : Nat) H locs ls => (H = s.heap) ∧ (locs = []) ∧ (z ≤ 12) ∧ (n = 12 - z) ∧ va_P (dC, dI) clB (mw h ad ka mth mnw mcp mcb mcv mcl mbl mpl mfm mto mfs mls mpg mpn mus mdi mst mbs mhd men mfl mrd mwn mlf) H ∧ lv_has ls 4 [(0, .ref h), (1, .int x), (2, .int (foM mpg x z)), (3, .int (nI z))]) ?_ 12 0 ⟨rfl, rfl, (by decide), rfl, hP, lv_sub hl [2, 3, 1, 0] rfl⟩
  skip
  intro n z H locs ls hI ih
  obtain ⟨rfl, rfl, hi, hn, hP, hl⟩ := hI
  refine lv_iload_n hx hb dM_frameOf_4 rfl (lv_at hl 3 rfl) ?_
  refine lv_bipush (v := 12) hx hb dM_frameOf_5 (by decide) ?_
  refine lv_icmp_ge (tgt := 32) hx hb dM_frameOf_7 (by decide) (fun c_1 => ?_) (fun c_1 => ?_)
  · have h12 : z = 12 := by have := (nI_leI (a := 12) (b := z) (by decide) (by omega)).mp c_1; omega
    refine lv_iload_n hx hb dM_frameOf_32 rfl (lv_at hl 2 rfl) ?_
    exact W.iret (v := (foM mpg x z)) hx hb hr (fun t ht hW => ⟨(foM mpg x z), rfl, (by rw [h12]), ht⟩) (fun _ h => by cases h) dM_frameOf_33
  · have hz : z < 12 := by have := mt (nI_leI (a := 12) (b := z) (by decide) (by omega)).mpr c_1; omega
    refine lv_aload_n hx hb dM_frameOf_10 rfl (lv_at hl 0 rfl) ?_
    refine va_get (D := (dC, dI)) (ci := 4) (v := .ref (ad 10)) (C := RM) (T := TM) (N := 24) hx hb hts (inC inM) hown hK hP 0 rfl rfl 12 (by decide) (hq _ wi_478) (fun _ h9 => h9) rfl dM_frameOf_11 ?_
    refine lv_iload_n hx hb dM_frameOf_14 rfl (lv_at hl 3 rfl) ?_
    refine tk_iald (n := z) hx hb hK hP 11 3 rfl rfl rfl hz (by decide) dM_frameOf_15 ?_
    refine lv_iload_n hx hb dM_frameOf_16 rfl (lv_at hl 1 rfl) ?_
    refine tk_sel (g1 := F0 m 25 ls (.int (if (mpg z) = x then (nI z) else (foM mpg x z)) :: [])) (fun hJ_2 => ?_) ?_
    · refine lv_icmp_ne (tgt := 24) hx hb dM_frameOf_17 (by decide) (fun c_3 => ?_) (fun c_3 => ?_)
      · refine lv_iload_n hx hb dM_frameOf_24 rfl (lv_at hl 2 rfl) ?_
        exact tk_selx (if_neg c_3) hJ_2
      · refine lv_iload_n hx hb dM_frameOf_20 rfl (lv_at hl 3 rfl) ?_
        refine lv_goto (tgt := 25) hx hb dM_frameOf_21 (by decide) ?_
        exact tk_selx (if_pos c_3) hJ_2
    refine lv_istore_n (lv' := [(2, .int (if (mpg z) = x then (nI z) else (foM mpg x z))), (0, .ref h), (1, .int x), (3, .int (nI z))]) hx hb dM_frameOf_25 rfl hl (by decide) rfl (fun ls hl => ?_)
    refine lv_iinc (v := ((nI z) + 1)) (lv' := [(3, .int ((nI z) + 1)), (2, .int (if (mpg z) = x then (nI z) else (foM mpg x z))), (0, .ref h), (1, .int x)]) hx hb dM_frameOf_26 hl (k := 3) rfl rfl (by decide) rfl (fun ls hl => ?_)
    refine lv_goto (tgt := 4) hx hb dM_frameOf_29 (by decide) ?_
    exact ih (n - 1) (z + 1) _ _ _ (by omega) ⟨rfl, rfl, by omega, by omega, hP, lv_sub hl [2, 3, 1, 0] (by rw [← nI_1 z]; rfl)⟩

theorem apM_01 (pg pn : Nat → Int32) (z : Nat) : apM pg pn z = 0 ∨ apM pg pn z = 1 := by
  cases z with
  | zero => exact Or.inr rfl
  | succ z => exact ite_01 (Or.inl rfl) (ite_01 (Or.inl rfl) (ite_01 (Or.inl rfl) (Or.inr rfl)))

set_option maxHeartbeats 4000000 in
set_option maxRecDepth 100000 in
theorem c_M_allPinned (l : Launch) (dC : Nat → ClassId) (dI : Nat → Nat → Nat) (ka : Nat → ClassId) (h : Nat) (ad : Nat → Nat) (mth mnw : Int32) (mcp mcb mcv mcl mbl mpl mfm mto mfs mls mpg mpn mus mdi mst mbs : Nat → Int32) (mhd men mfl mrd mwn mlf : Int32) : Met l yM_allPinned wM_allPinned ({ frames := 0, cells := 0, slots := 0, locals := 0 }) (va_Pc [.ref h] (fun U => tk_E dC dI ka U ∧ va_P (dC, dI) clB (mw h ad ka mth mnw mcp mcb mcv mcl mbl mpl mfm mto mfs mls mpg mpn mus mdi mst mbs mhd men mfl mrd mwn mlf) U.heap)) (vp_Si (fun r => r = apM mpg mpn 12)) 0 0 (fun _ => False) := by
  refine Met.ofW (cc := cM_allPinned) (maxL := 3) (ret := (some .boolean)) (by decide) rfl ?_
  intro p e s m args below meth c s₁ B hml hv
  obtain ⟨rfl, hE, hP⟩ := hv
  have hx := B.exec
  have hb := B.bytes
  have hr := B.returns
  have hts := atoms_spec (ws := wM_allPinned) B.pre
  have hq : ∀ w ∈ lwg, w.before _ s = true := fun w h => hts w (List.mem_cons_of_mem _ h)
  have hown : s.vm.findClass RM = some m.cls := findClass_of_methodNamed B.named
  have hlocks := B.notSynchronized
  have hK := hE.1
  have hN := hE.2
  have hP : va_P (dC, dI) clB (mw h ad ka mth mnw mcp mcb mcv mcl mbl mpl mfm mto mfs mls mpg mpn mus mdi mst mbs mhd men mfl mrd mwn mlf) s.heap := hP
  have hl := lv_entry ([.ref h]) (n := 3) (Nat.le_of_ble_eq_true rfl)
  rw [lg_entry_eq]
  generalize (lg_sl ([.ref h]) ++ List.replicate (3 - (lg_sl ([.ref h])).length) Slot.unset).toArray = ls at hl ⊢
  have hl : lv_has ls 3 [(0, .ref h)] := hl
  refine lv_iconst (v := 1) hx hb dM_allPinned_0 (by decide) ?_
  refine lv_istore_n (lv' := [(1, .int 1), (0, .ref h)]) hx hb dM_allPinned_1 rfl hl (by decide) rfl (fun ls hl => ?_)
  refine lv_iconst (v := 0) hx hb dM_allPinned_2 (by decide) ?_
  refine lv_istore_n (lv' := [(2, .int 0), (1, .int 1), (0, .ref h)]) hx hb dM_allPinned_3 rfl hl (by decide) rfl (fun ls hl => ?_)
  refine tk_loop 4 (fun (n : Nat) (z : Nat) H locs ls => (H = s.heap) ∧ (locs = []) ∧ (z ≤ 12) ∧ (n = 12 - z) ∧ va_P (dC, dI) clB (mw h ad ka mth mnw mcp mcb mcv mcl mbl mpl mfm mto mfs mls mpg mpn mus mdi mst mbs mhd men mfl mrd mwn mlf) H ∧ lv_has ls 3 [(0, .ref h), (1, .int (apM mpg mpn z)), (2, .int (nI z))]) ?_ 12 0 ⟨rfl, rfl, (by decide), rfl, hP, lv_sub hl [2, 1, 0] rfl⟩
  skip
  intro n z H locs ls hI ih
  obtain ⟨rfl, rfl, hi, hn, hP, hl⟩ := hI
  refine lv_iload_n hx hb dM_allPinned_4 rfl (lv_at hl 2 rfl) ?_
  refine lv_bipush (v := 12) hx hb dM_allPinned_5 (by decide) ?_
  refine lv_icmp_ge (tgt := 44) hx hb dM_allPinned_7 (by decide) (fun c_1 => ?_) (fun c_1 => ?_)
  · have h12 : z = 12 := by have := (nI_leI (a := 12) (b := z) (by decide) (by omega)).mp c_1; omega
    refine lv_iload_n hx hb dM_allPinned_44 rfl (lv_at hl 1 rfl) ?_
    exact W.zret (v := (apM mpg mpn z)) (ty := .boolean) hx hb hr (nar_v01 (apM_01 _ _ _)) (fun t ht hW => ⟨(apM mpg mpn z), rfl, (by rw [h12]), ht⟩) (fun _ h => by cases h) dM_allPinned_45
  · have hz : z < 12 := by have := mt (nI_leI (a := 12) (b := z) (by decide) (by omega)).mpr c_1; omega
    refine lv_iload_n hx hb dM_allPinned_10 rfl (lv_at hl 1 rfl) ?_
    refine tk_sel (g1 := F0 m 37 ls (.int (if (apM mpg mpn z) = 0 then 0 else (if (mpg z) < 0 then 0 else (if (mpn z) ≤ 0 then 0 else 1))) :: [])) (fun hJ_2 => ?_) ?_
    · refine lv_if_eq (tgt := 36) hx hb dM_allPinned_11 (by decide) (fun c_3 => ?_) (fun c_3 => ?_)
      · refine lv_iconst (v := 0) hx hb dM_allPinned_36 (by decide) ?_
        exact tk_selx (if_pos c_3) hJ_2
      · refine lv_aload_n hx hb dM_allPinned_14 rfl (lv_at hl 0 rfl) ?_
        refine va_get (D := (dC, dI)) (ci := 4) (v := .ref (ad 10)) (C := RM) (T := TM) (N := 24) hx hb hts (inC inM) hown hK hP 0 rfl rfl 12 (by decide) (hq _ wi_478) (fun _ h9 => h9) rfl dM_allPinned_15 ?_
        refine lv_iload_n hx hb dM_allPinned_18 rfl (lv_at hl 2 rfl) ?_
        refine tk_iald (n := z) hx hb hK hP 11 3 rfl rfl rfl hz (by decide) dM_allPinned_19 ?_
        refine lv_if_lt (tgt := 36) hx hb dM_allPinned_20 (by decide) (fun c_4 => ?_) (fun c_4 => ?_)
        · refine lv_iconst (v := 0) hx hb dM_allPinned_36 (by decide) ?_
          exact tk_selx ((if_neg c_3).trans (if_pos c_4)) hJ_2
        · refine lv_aload_n hx hb dM_allPinned_23 rfl (lv_at hl 0 rfl) ?_
          refine va_get (D := (dC, dI)) (ci := 4) (v := .ref (ad 11)) (C := RM) (T := TM) (N := 24) hx hb hts (inC inM) hown hK hP 0 rfl rfl 13 (by decide) (hq _ wi_479) (fun _ h9 => h9) rfl dM_allPinned_24 ?_
          refine lv_iload_n hx hb dM_allPinned_27 rfl (lv_at hl 2 rfl) ?_
          refine tk_iald (n := z) hx hb hK hP 12 3 rfl rfl rfl hz (by decide) dM_allPinned_28 ?_
          refine lv_if_le (tgt := 36) hx hb dM_allPinned_29 (by decide) (fun c_5 => ?_) (fun c_5 => ?_)
          · refine lv_iconst (v := 0) hx hb dM_allPinned_36 (by decide) ?_
            exact tk_selx ((if_neg c_3).trans ((if_neg c_4).trans (if_pos c_5))) hJ_2
          · refine lv_iconst (v := 1) hx hb dM_allPinned_32 (by decide) ?_
            refine lv_goto (tgt := 37) hx hb dM_allPinned_33 (by decide) ?_
            exact tk_selx ((if_neg c_3).trans ((if_neg c_4).trans (if_neg c_5))) hJ_2
    refine lv_istore_n (lv' := [(1, .int (if (apM mpg mpn z) = 0 then 0 else (if (mpg z) < 0 then 0 else (if (mpn z) ≤ 0 then 0 else 1)))), (0, .ref h), (2, .int (nI z))]) hx hb dM_allPinned_37 rfl hl (by decide) rfl (fun ls hl => ?_)
    refine lv_iinc (v := ((nI z) + 1)) (lv' := [(2, .int ((nI z) + 1)), (1, .int (if (apM mpg mpn z) = 0 then 0 else (if (mpg z) < 0 then 0 else (if (mpn z) ≤ 0 then 0 else 1)))), (0, .ref h)]) hx hb dM_allPinned_38 hl (k := 2) rfl rfl (by decide) rfl (fun ls hl => ?_)
    refine lv_goto (tgt := 4) hx hb dM_allPinned_41 (by decide) ?_
    exact ih (n - 1) (z + 1) _ _ _ (by omega) ⟨rfl, rfl, by omega, by omega, hP, lv_sub hl [2, 1, 0] (by rw [← nI_1 z]; rfl)⟩

set_option maxHeartbeats 4000000 in
set_option maxRecDepth 100000 in
theorem c_M_fill (l : Launch) (dC : Nat → ClassId) (dI : Nat → Nat → Nat) (ka : Nat → ClassId) (sz : Nat) (h : Nat) (ad : Nat → Nat) (mth mnw : Int32) (mcp mcb mcv mcl mbl mpl mfm mto mfs mls mpg mpn mus mdi mst mbs : Nat → Int32) (mhd men mfl mrd mwn mlf : Int32) (x y v : Int32) (n p0 : Nat) (ex : x = nI n) (hn : n < 12) (ey : y = nI p0) (hp0 : p0 < 192) : Met l yM_fill wM_fill ({ frames := 0, cells := 0, slots := 0, locals := 0 }) (va_Pc [.ref h, .int x, .int y, .int v] (fun U => U.heap.size = sz ∧ tk_E dC dI ka U ∧ va_P (dC, dI) clB (mw h ad ka mth mnw mcp mcb mcv mcl mbl mpl mfm mto mfs mls mpg mpn mus mdi mst mbs mhd men mfl mrd mwn mlf) U.heap ∧ va_D (fun _ => True) (mw h ad ka mth mnw mcp mcb mcv mcl mbl mpl mfm mto mfs mls mpg mpn mus mdi mst mbs mhd men mfl mrd mwn mlf))) (va_Qv (fun _ : Unit => True) (fun _ t => va_P (dC, dI) clB (mw h ad ka mth mnw mcp mcb mcv mcl mbl mpl mfm mto mfs mls (upd mpg n y) (upd mpn n 1) (upd mus n 1) (upd mdi n 0) (upd mst n (mfs p0)) (upd mbs n v) mhd men mfl mrd mwn mlf) t.heap) (va_A (mw h ad ka mth mnw mcp mcb mcv mcl mbl mpl mfm mto mfs mls mpg mpn mus mdi mst mbs mhd men mfl mrd mwn mlf) sz)) 0 0 (va_A (mw h ad ka mth mnw mcp mcb mcv mcl mbl mpl mfm mto mfs mls mpg mpn mus mdi mst mbs mhd men mfl mrd mwn mlf) sz) := by
  refine Met.ofW (cc := cM_fill) (maxL := 4) (ret := none) (by decide) rfl ?_
  intro p e s m args below meth c s₁ B hml hv
  obtain ⟨rfl, hsz, hE, hP, hD0⟩ := hv
  have hx := B.exec
  have hb := B.bytes
  have hr := B.returns
  have hts := atoms_spec (ws := wM_fill) B.pre
  have hq : ∀ w ∈ lwg, w.before _ s = true := fun w h => hts w (List.mem_cons_of_mem _ h)
  have hown : s.vm.findClass RM = some m.cls := findClass_of_methodNamed B.named
  have hlocks := B.notSynchronized
  have hK := hE.1
  have hN := hE.2
  subst hsz
  have hD := hD0.self (sz := s.heap.size)
  generalize hAe : va_A (mw h ad ka mth mnw mcp mcb mcv mcl mbl mpl mfm mto mfs mls mpg mpn mus mdi mst mbs mhd men mfl mrd mwn mlf) s.heap.size = A at hD ⊢
  have hA : ∀ q : Nat, s.heap.size ≤ q → A q := fun q h => by rw [← hAe]; exact Or.inr h
  have hS : va_S A s.heap s.heap [] := va_S.rf
  have hDw := hD
  have hP : va_P (dC, dI) clB (mw h ad ka mth mnw mcp mcb mcv mcl mbl mpl mfm mto mfs mls mpg mpn mus mdi mst mbs mhd men mfl mrd mwn mlf) s.heap := hP
  have hl := lv_entry ([.ref h, .int x, .int y, .int v]) (n := 4) (Nat.le_of_ble_eq_true rfl)
  rw [lg_entry_eq]
  generalize (lg_sl ([.ref h, .int x, .int y, .int v]) ++ List.replicate (4 - (lg_sl ([.ref h, .int x, .int y, .int v])).length) Slot.unset).toArray = ls at hl ⊢
  have hl : lv_has ls 4 [(0, .ref h), (1, .int x), (2, .int y), (3, .int v)] := hl
  refine lv_aload_n hx hb dM_fill_0 rfl (lv_at hl 0 rfl) ?_
  refine va_get (D := (dC, dI)) (ci := 4) (v := .ref (ad 10)) (C := RM) (T := TM) (N := 24) hx hb hts (inC inM) hown hK hP 0 rfl rfl 12 (by decide) (hq _ wi_478) (fun _ h9 => h9) rfl dM_fill_1 ?_
  refine lv_iload_n hx hb dM_fill_4 rfl (lv_at hl 1 rfl) ?_
  refine lv_iload_n hx hb dM_fill_5 rfl (lv_at hl 2 rfl) ?_
  refine tk_iast (n := n) hx hb hK hP hD hS 11 3 rfl rfl ex hn (by decide) dM_fill_6 (fun H locs hP hD hS => ?_)
  have hP : va_P (dC, dI) clB (mw h ad ka mth mnw mcp mcb mcv mcl mbl mpl mfm mto mfs mls (upd mpg n y) mpn mus mdi mst mbs mhd men mfl mrd mwn mlf) H := hP
  have hD : va_D A (mw h ad ka mth mnw mcp mcb mcv mcl mbl mpl mfm mto mfs mls (upd mpg n y) mpn mus mdi mst mbs mhd men mfl mrd mwn mlf) := mw_D hDw
  refine lv_aload_n hx hb dM_fill_7 rfl (lv_at hl 0 rfl) ?_
  refine va_get (D := (dC, dI)) (ci := 4) (v := .ref (ad 11)) (C := RM) (T := TM) (N := 24) hx hb hts (inC inM) hown hK hP 0 rfl rfl 13 (by decide) (hq _ wi_479) (fun _ h9 => h9) rfl dM_fill_8 ?_
  refine lv_iload_n hx hb dM_fill_11 rfl (lv_at hl 1 rfl) ?_
  refine lv_iconst (v := 1) hx hb dM_fill_12 (by decide) ?_
  refine tk_iast (n := n) hx hb hK hP hD hS 12 3 rfl rfl ex hn (by decide) dM_fill_13 (fun H locs hP hD hS => ?_)
  have hP : va_P (dC, dI) clB (mw h ad ka mth mnw mcp mcb mcv mcl mbl mpl mfm mto mfs mls (upd mpg n y) (upd mpn n 1) mus mdi mst mbs mhd men mfl mrd mwn mlf) H := hP
  have hD : va_D A (mw h ad ka mth mnw mcp mcb mcv mcl mbl mpl mfm mto mfs mls (upd mpg n y) (upd mpn n 1) mus mdi mst mbs mhd men mfl mrd mwn mlf) := mw_D hDw
  refine lv_aload_n hx hb dM_fill_14 rfl (lv_at hl 0 rfl) ?_
  refine va_get (D := (dC, dI)) (ci := 4) (v := .ref (ad 12)) (C := RM) (T := TM) (N := 24) hx hb hts (inC inM) hown hK hP 0 rfl rfl 14 (by decide) (hq _ wi_480) (fun _ h9 => h9) rfl dM_fill_15 ?_
  refine lv_iload_n hx hb dM_fill_18 rfl (lv_at hl 1 rfl) ?_
  refine lv_iconst (v := 1) hx hb dM_fill_19 (by decide) ?_
  refine tk_iast (n := n) hx hb hK hP hD hS 13 3 rfl rfl ex hn (by decide) dM_fill_20 (fun H locs hP hD hS => ?_)
  have hP : va_P (dC, dI) clB (mw h ad ka mth mnw mcp mcb mcv mcl mbl mpl mfm mto mfs mls (upd mpg n y) (upd mpn n 1) (upd mus n 1) mdi mst mbs mhd men mfl mrd mwn mlf) H := hP
  have hD : va_D A (mw h ad ka mth mnw mcp mcb mcv mcl mbl mpl mfm mto mfs mls (upd mpg n y) (upd mpn n 1) (upd mus n 1) mdi mst mbs mhd men mfl mrd mwn mlf) := mw_D hDw
  refine lv_aload_n hx hb dM_fill_21 rfl (lv_at hl 0 rfl) ?_
  refine va_get (D := (dC, dI)) (ci := 4) (v := .ref (ad 13)) (C := RM) (T := TM) (N := 24) hx hb hts (inC inM) hown hK hP 0 rfl rfl 15 (by decide) (hq _ wi_481) (fun _ h9 => h9) rfl dM_fill_22 ?_
  refine lv_iload_n hx hb dM_fill_25 rfl (lv_at hl 1 rfl) ?_
  refine lv_iconst (v := 0) hx hb dM_fill_26 (by decide) ?_
  refine tk_zast (n := n) (v := 0) hx hb hK hP hD hS 14 4 rfl rfl ex hn (by decide) rfl dM_fill_27 (fun H locs hP hD hS => ?_)
  have hP : va_P (dC, dI) clB (mw h ad ka mth mnw mcp mcb mcv mcl mbl mpl mfm mto mfs mls (upd mpg n y) (upd mpn n 1) (upd mus n 1) (upd mdi n 0) mst mbs mhd men mfl mrd mwn mlf) H := hP
  have hD : va_D A (mw h ad ka mth mnw mcp mcb mcv mcl mbl mpl mfm mto mfs mls (upd mpg n y) (upd mpn n 1) (upd mus n 1) (upd mdi n 0) mst mbs mhd men mfl mrd mwn mlf) := mw_D hDw
  refine lv_aload_n hx hb dM_fill_28 rfl (lv_at hl 0 rfl) ?_
  refine va_get (D := (dC, dI)) (ci := 4) (v := .ref (ad 14)) (C := RM) (T := TM) (N := 24) hx hb hts (inC inM) hown hK hP 0 rfl rfl 16 (by decide) (hq _ wi_482) (fun _ h9 => h9) rfl dM_fill_29 ?_
  refine lv_iload_n hx hb dM_fill_32 rfl (lv_at hl 1 rfl) ?_
  refine lv_aload_n hx hb dM_fill_33 rfl (lv_at hl 0 rfl) ?_
  refine va_get (D := (dC, dI)) (ci := 4) (v := .ref (ad 8)) (C := RM) (T := TM) (N := 24) hx hb hts (inC inM) hown hK hP 0 rfl rfl 10 (by decide) (hq _ wi_476) (fun _ h9 => h9) rfl dM_fill_34 ?_
  refine lv_iload_n hx hb dM_fill_37 rfl (lv_at hl 2 rfl) ?_
  refine tk_iald (n := p0) hx hb hK hP 9 3 rfl rfl ey hp0 (by decide) dM_fill_38 ?_
  refine tk_iast (n := n) hx hb hK hP hD hS 15 3 rfl rfl ex hn (by decide) dM_fill_39 (fun H locs hP hD hS => ?_)
  have hP : va_P (dC, dI) clB (mw h ad ka mth mnw mcp mcb mcv mcl mbl mpl mfm mto mfs mls (upd mpg n y) (upd mpn n 1) (upd mus n 1) (upd mdi n 0) (upd mst n (mfs p0)) mbs mhd men mfl mrd mwn mlf) H := hP
  have hD : va_D A (mw h ad ka mth mnw mcp mcb mcv mcl mbl mpl mfm mto mfs mls (upd mpg n y) (upd mpn n 1) (upd mus n 1) (upd mdi n 0) (upd mst n (mfs p0)) mbs mhd men mfl mrd mwn mlf) := mw_D hDw
  refine lv_aload_n hx hb dM_fill_40 rfl (lv_at hl 0 rfl) ?_
  refine va_get (D := (dC, dI)) (ci := 4) (v := .ref (ad 15)) (C := RM) (T := TM) (N := 24) hx hb hts (inC inM) hown hK hP 0 rfl rfl 17 (by decide) (hq _ wi_483) (fun _ h9 => h9) rfl dM_fill_41 ?_
  refine lv_iload_n hx hb dM_fill_44 rfl (lv_at hl 1 rfl) ?_
  refine lv_iload_n hx hb dM_fill_45 rfl (lv_at hl 3 rfl) ?_
  refine tk_iast (n := n) hx hb hK hP hD hS 16 3 rfl rfl ex hn (by decide) dM_fill_46 (fun H locs hP hD hS => ?_)
  have hP : va_P (dC, dI) clB (mw h ad ka mth mnw mcp mcb mcv mcl mbl mpl mfm mto mfs mls (upd mpg n y) (upd mpn n 1) (upd mus n 1) (upd mdi n 0) (upd mst n (mfs p0)) (upd mbs n v) mhd men mfl mrd mwn mlf) H := hP
  have hD : va_D A (mw h ad ka mth mnw mcp mcb mcv mcl mbl mpl mfm mto mfs mls (upd mpg n y) (upd mpn n 1) (upd mus n 1) (upd mdi n 0) (upd mst n (mfs p0)) (upd mbs n v) mhd men mfl mrd mwn mlf) := mw_D hDw
  exact W.vret hx hb hr (fun t ht hW => ⟨⟨(), rfl, trivial, by show va_P _ _ _ t.heap; rw [ht]; exact hP⟩, hS.F ht⟩) hS.2.2 dM_fill_47
