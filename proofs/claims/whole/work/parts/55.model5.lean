set_option maxHeartbeats 4000000 in
set_option maxRecDepth 100000 in
theorem c_M_pin_p0 (l : Launch) (dC : Nat → ClassId) (dI : Nat → Nat → Nat) (ka : Nat → ClassId) (sz : Nat) (h : Nat) (ad : Nat → Nat) (mth mnw : Int32) (mcp mcb mcv mcl mbl mpl mfm mto mfs mls mpg mpn mus mdi mst mbs : Nat → Int32) (mhd men mfl mrd mwn mlf : Int32) (x : Int32) (hx0 : x < 0 ∨ nI 192 ≤ x) : Met l yM_pin wM_pin ({ frames := 1, cells := 0, slots := 0, locals := 21 }) (va_Pc [.ref h, .int x] (fun U => U.heap.size = sz ∧ tk_E dC dI ka U ∧ va_P (dC, dI) clB (mw h ad ka mth mnw mcp mcb mcv mcl mbl mpl mfm mto mfs mls mpg mpn mus mdi mst mbs mhd men mfl mrd mwn mlf) U.heap ∧ va_D (fun _ => True) (mw h ad ka mth mnw mcp mcb mcv mcl mbl mpl mfm mto mfs mls mpg mpn mus mdi mst mbs mhd men mfl mrd mwn mlf))) (va_Qi (fun (r : Int32) (_ : Unit) => r = 0) (fun _ t => va_P (dC, dI) clB (mw h ad ka 1 mnw mcp mcb mcv mcl mbl mpl mfm mto mfs mls mpg mpn mus mdi mst mbs mhd men mfl mrd mwn mlf) t.heap) (va_A (mw h ad ka mth mnw mcp mcb mcv mcl mbl mpl mfm mto mfs mls mpg mpn mus mdi mst mbs mhd men mfl mrd mwn mlf) sz)) 0 0 (va_A (mw h ad ka mth mnw mcp mcb mcv mcl mbl mpl mfm mto mfs mls mpg mpn mus mdi mst mbs mhd men mfl mrd mwn mlf) sz) := by
  refine Met.ofW (cc := cM_pin) (maxL := 3) (ret := (some .int)) (by decide) rfl ?_
  intro p e s m args below meth c s₁ B hml hv
  obtain ⟨rfl, hsz, hE, hP, hD0⟩ := hv
  have hx := B.exec
  have hb := B.bytes
  have hr := B.returns
  have hts := atoms_spec (ws := wM_pin) B.pre
  have hq : ∀ w ∈ lwg, w.before _ s = true := fun w h => hts w (List.mem_cons_of_mem _ h)
  have hown : s.vm.findClass RM = some m.cls := findClass_of_methodNamed B.named
  have hlocks := B.notSynchronized
  have hK := hE.1
  have hN := hE.2
  subst hsz
  have hD := hD0.self (sz := s.heap.size)
  generalize hAe : va_A (mw h ad ka mth mnw mcp mcb mcv mcl mbl mpl mfm mto mfs mls mpg mpn mus mdi mst mbs mhd men mfl mrd mwn mlf) s.heap.size = A at hD ⊢
  have hA : ∀ q : Nat, s.heap.size ≤ q → A q := fun q h => by rw [← hAe]; exact Or.inr h
  have hS : va_S A s.heap s.heap [] := va_S.rf
  have hDw := hD
  have hP : va_P (dC, dI) clB (mw h ad ka mth mnw mcp mcb mcv mcl mbl mpl mfm mto mfs mls mpg mpn mus mdi mst mbs mhd men mfl mrd mwn mlf) s.heap := hP
  have hl := lv_entry ([.ref h, .int x]) (n := 3) (Nat.le_of_ble_eq_true rfl)
  rw [lg_entry_eq]
  generalize (lg_sl ([.ref h, .int x]) ++ List.replicate (3 - (lg_sl ([.ref h, .int x])).length) Slot.unset).toArray = ls at hl ⊢
  have hl : lv_has ls 3 [(0, .ref h), (1, .int x)] := hl
  refine lv_aload_n hx hb dM_pin_0 rfl (lv_at hl 0 rfl) ?_
  refine lv_iconst (v := 0) hx hb dM_pin_1 (by decide) ?_
  refine va_put (D := (dC, dI)) (ci := 4) (v := .int 0) (ty := .int) (C := RM) (T := TM) (N := 24) hx hb hts (inC inM) tyM tyM_ok nmM hown hK hP hD hS 0 rfl rfl 0 (by decide) (hq _ wi_466) (fun _ h9 => h9) rfl (by decide +kernel) rfl rfl (Nat.le_of_ble_eq_true rfl) dM_pin_2 (fun H locs hP hD hS => ?_)
  have hP : va_P (dC, dI) clB (mw h ad ka 0 mnw mcp mcb mcv mcl mbl mpl mfm mto mfs mls mpg mpn mus mdi mst mbs mhd men mfl mrd mwn mlf) H := hP
  have hD : va_D A (mw h ad ka 0 mnw mcp mcb mcv mcl mbl mpl mfm mto mfs mls mpg mpn mus mdi mst mbs mhd men mfl mrd mwn mlf) := mw_D hDw
  refine lv_iload_n hx hb dM_pin_5 rfl (lv_at hl 1 rfl) ?_
  refine vp_callSi (va_Run.run (va_runS (As := [.int x]) (rest := []) ⟨hx, hb, hml, hown, hts⟩ (c_M_isPage l dC dI ka x) (cwS 1 hts (tw_S wi_569 wi_570 wi_28 wi_571) rfl rfl rfl (by decide +kernel) ⟨Nat.le_of_ble_eq_true rfl, Nat.le_of_ble_eq_true rfl⟩) ⟨fun a U g mk q => ⟨q.1, tk_E.call q.2.1, q.2.2⟩, fun U hU hW => ⟨rfl, tk_E.warm hW hE, by rw [hU]; exact (fun _ _ h => nomatch h)⟩⟩ rfl rfl hl.1 rfl (lv_room (Nat.le_of_ble_eq_true rfl)) dM_pin_6 ⟨Nat.zero_le _, Nat.zero_le _⟩)) (fun r_1 er_1 => ?_)
  replace er_1 := er_1.trans (tk_is0 (N := 192) hx0)
  subst er_1
  refine lv_if_ne (tgt := 18) hx hb dM_pin_9 (by decide) (fun c_2 => ?_) (fun c_2 => ?_)
  · exact absurd c_2 (by decide)
  · refine lv_aload_n hx hb dM_pin_12 rfl (lv_at hl 0 rfl) ?_
    refine lv_iconst (v := 1) hx hb dM_pin_13 (by decide) ?_
    have hFc := tk_freeW hD hS hA
    refine va_calli (va_runV (As := [.int 1]) (rest := []) ⟨hx, hb, hml, hown, hts⟩ (c_M_fails l dC dI ka _ h ad 0 mnw mcp mcb mcv mcl mbl mpl mfm mto mfs mls mpg mpn mus mdi mst mbs mhd men mfl mrd mwn mlf 1 ) (cwV 1 hts (tw_V wi_584 wi_586 wi_15 wi_28 wi_587) rfl rfl rfl (by decide +kernel) ⟨Nat.le_of_ble_eq_true rfl, Nat.le_of_ble_eq_true rfl⟩) ⟨fun a U g mk q => ⟨q.1, q.2.1, tk_E.call q.2.2.1, q.2.2.2⟩, va_recv hK hP (ci := 4) (q0 := 0) rfl rfl, fun U hU hW => ⟨rfl, by rw [hU], tk_E.warm hW hE, by rw [hU]; exact hP, hD.weaken (fun _ _ _ _ => trivial)⟩⟩ rfl rfl hl.1 rfl (lv_room (Nat.le_of_ble_eq_true rfl)) dM_pin_14 ⟨Nat.zero_le _, Nat.zero_le _⟩) hS (fun q _ h => hFc q h) hFc (fun r_4 u_3 t H1 locs ht hvm hw hB hz1 hk1 hS => ?_)
    have hB : va_P (dC, dI) clB (mw h ad ka 1 mnw mcp mcb mcv mcl mbl mpl mfm mto mfs mls mpg mpn mus mdi mst mbs mhd men mfl mrd mwn mlf) H1 := by rw [← ht]; exact hB
    obtain ⟨hP, hD⟩ := (⟨hB, mw_D hDw⟩ : va_P (dC, dI) clB (mw h ad ka 1 mnw mcp mcb mcv mcl mbl mpl mfm mto mfs mls mpg mpn mus mdi mst mbs mhd men mfl mrd mwn mlf) H1 ∧ va_D A (mw h ad ka 1 mnw mcp mcb mcv mcl mbl mpl mfm mto mfs mls mpg mpn mus mdi mst mbs mhd men mfl mrd mwn mlf))
    generalize H1 = H at hP hS ⊢
    have hP : va_P (dC, dI) clB (mw h ad ka 1 mnw mcp mcb mcv mcl mbl mpl mfm mto mfs mls mpg mpn mus mdi mst mbs mhd men mfl mrd mwn mlf) H := hP
    have hD : va_D A (mw h ad ka 1 mnw mcp mcb mcv mcl mbl mpl mfm mto mfs mls mpg mpn mus mdi mst mbs mhd men mfl mrd mwn mlf) := mw_D hDw
    subst hw
    exact W.iret (v := 0) hx hb hr (fun t ht hW => ⟨⟨0, (), rfl, rfl, by show va_P _ _ _ t.heap; rw [ht]; exact hP⟩, hS.F ht⟩) hS.2.2 dM_pin_17

set_option maxHeartbeats 4000000 in
set_option maxRecDepth 100000 in
theorem c_M_pin_h (l : Launch) (dC : Nat → ClassId) (dI : Nat → Nat → Nat) (ka : Nat → ClassId) (sz : Nat) (h : Nat) (ad : Nat → Nat) (mth mnw : Int32) (mcp mcb mcv mcl mbl mpl mfm mto mfs mls mpg mpn mus mdi mst mbs : Nat → Int32) (mhd men mfl mrd mwn mlf : Int32) (x : Int32) (n j : Nat) (ex : x = nI n) (hn : n < 192) (hj : j < 12) (hfo : foM mpg x 12 = nI j) : Met l yM_pin wM_pin ({ frames := 1, cells := 0, slots := 0, locals := 23 }) (va_Pc [.ref h, .int x] (fun U => U.heap.size = sz ∧ tk_E dC dI ka U ∧ va_P (dC, dI) clB (mw h ad ka mth mnw mcp mcb mcv mcl mbl mpl mfm mto mfs mls mpg mpn mus mdi mst mbs mhd men mfl mrd mwn mlf) U.heap ∧ va_D (fun _ => True) (mw h ad ka mth mnw mcp mcb mcv mcl mbl mpl mfm mto mfs mls mpg mpn mus mdi mst mbs mhd men mfl mrd mwn mlf))) (va_Qi (fun (r : Int32) (_ : Unit) => r = nI j) (fun _ t => va_P (dC, dI) clB (mw h ad ka 0 mnw mcp mcb mcv mcl mbl mpl mfm mto mfs mls mpg (upd mpn j (mpn j + 1)) (upd mus j (if 3 ≤ mus j then 3 else mus j + 1)) mdi mst mbs mhd men mfl mrd mwn mlf) t.heap) (va_A (mw h ad ka mth mnw mcp mcb mcv mcl mbl mpl mfm mto mfs mls mpg mpn mus mdi mst mbs mhd men mfl mrd mwn mlf) sz)) 0 0 (va_A (mw h ad ka mth mnw mcp mcb mcv mcl mbl mpl mfm mto mfs mls mpg mpn mus mdi mst mbs mhd men mfl mrd mwn mlf) sz) := by
  refine Met.ofW (cc := cM_pin) (maxL := 3) (ret := (some .int)) (by decide) rfl ?_
  intro p e s m args below meth c s₁ B hml hv
  obtain ⟨rfl, hsz, hE, hP, hD0⟩ := hv
  have hx := B.exec
  have hb := B.bytes
  have hr := B.returns
  have hts := atoms_spec (ws := wM_pin) B.pre
  have hq : ∀ w ∈ lwg, w.before _ s = true := fun w h => hts w (List.mem_cons_of_mem _ h)
  have hown : s.vm.findClass RM = some m.cls := findClass_of_methodNamed B.named
  have hlocks := B.notSynchronized
  have hK := hE.1
  have hN := hE.2
  subst hsz
  have hD := hD0.self (sz := s.heap.size)
  generalize hAe : va_A (mw h ad ka mth mnw mcp mcb mcv mcl mbl mpl mfm mto mfs mls mpg mpn mus mdi mst mbs mhd men mfl mrd mwn mlf) s.heap.size = A at hD ⊢
  have hA : ∀ q : Nat, s.heap.size ≤ q → A q := fun q h => by rw [← hAe]; exact Or.inr h
  have hS : va_S A s.heap s.heap [] := va_S.rf
  have hDw := hD
  have hP : va_P (dC, dI) clB (mw h ad ka mth mnw mcp mcb mcv mcl mbl mpl mfm mto mfs mls mpg mpn mus mdi mst mbs mhd men mfl mrd mwn mlf) s.heap := hP
  have hl := lv_entry ([.ref h, .int x]) (n := 3) (Nat.le_of_ble_eq_true rfl)
  rw [lg_entry_eq]
  generalize (lg_sl ([.ref h, .int x]) ++ List.replicate (3 - (lg_sl ([.ref h, .int x])).length) Slot.unset).toArray = ls at hl ⊢
  have hl : lv_has ls 3 [(0, .ref h), (1, .int x)] := hl
  refine lv_aload_n hx hb dM_pin_0 rfl (lv_at hl 0 rfl) ?_
  refine lv_iconst (v := 0) hx hb dM_pin_1 (by decide) ?_
  refine va_put (D := (dC, dI)) (ci := 4) (v := .int 0) (ty := .int) (C := RM) (T := TM) (N := 24) hx hb hts (inC inM) tyM tyM_ok nmM hown hK hP hD hS 0 rfl rfl 0 (by decide) (hq _ wi_466) (fun _ h9 => h9) rfl (by decide +kernel) rfl rfl (Nat.le_of_ble_eq_true rfl) dM_pin_2 (fun H locs hP hD hS => ?_)
  have hP : va_P (dC, dI) clB (mw h ad ka 0 mnw mcp mcb mcv mcl mbl mpl mfm mto mfs mls mpg mpn mus mdi mst mbs mhd men mfl mrd mwn mlf) H := hP
  have hD : va_D A (mw h ad ka 0 mnw mcp mcb mcv mcl mbl mpl mfm mto mfs mls mpg mpn mus mdi mst mbs mhd men mfl mrd mwn mlf) := mw_D hDw
  refine lv_iload_n hx hb dM_pin_5 rfl (lv_at hl 1 rfl) ?_
  refine vp_callSi (va_Run.run (va_runS (As := [.int x]) (rest := []) ⟨hx, hb, hml, hown, hts⟩ (c_M_isPage l dC dI ka x) (cwS 1 hts (tw_S wi_569 wi_570 wi_28 wi_571) rfl rfl rfl (by decide +kernel) ⟨Nat.le_of_ble_eq_true rfl, Nat.le_of_ble_eq_true rfl⟩) ⟨fun a U g mk q => ⟨q.1, tk_E.call q.2.1, q.2.2⟩, fun U hU hW => ⟨rfl, tk_E.warm hW hE, by rw [hU]; exact (fun _ _ h => nomatch h)⟩⟩ rfl rfl hl.1 rfl (lv_room (Nat.le_of_ble_eq_true rfl)) dM_pin_6 ⟨Nat.zero_le _, Nat.zero_le _⟩)) (fun r_1 er_1 => ?_)
  replace er_1 := er_1.trans (tk_is1 (N := 192) ex hn (by decide))
  subst er_1
  refine lv_if_ne (tgt := 18) hx hb dM_pin_9 (by decide) (fun c_2 => ?_) (fun c_2 => ?_)
  · refine lv_aload_n hx hb dM_pin_18 rfl (lv_at hl 0 rfl) ?_
    refine lv_iload_n hx hb dM_pin_19 rfl (lv_at hl 1 rfl) ?_
    refine vp_callSi (va_Run.run (va_runV (As := [.int x]) (rest := []) ⟨hx, hb, hml, hown, hts⟩ (c_M_frameOf l dC dI ka h ad 0 mnw mcp mcb mcv mcl mbl mpl mfm mto mfs mls mpg mpn mus mdi mst mbs mhd men mfl mrd mwn mlf x ) (cwV 1 hts (tw_V wi_588 wi_590 wi_16 wi_28 wi_591) rfl rfl rfl (by decide +kernel) ⟨Nat.le_of_ble_eq_true rfl, Nat.le_of_ble_eq_true rfl⟩) ⟨fun a U g mk q => ⟨q.1, tk_E.call q.2.1, q.2.2⟩, va_recv hK hP (ci := 4) (q0 := 0) rfl rfl, fun U hU hW => ⟨rfl, tk_E.warm hW hE, by rw [hU]; exact hP⟩⟩ rfl rfl hl.1 rfl (lv_room (Nat.le_of_ble_eq_true rfl)) dM_pin_20 ⟨Nat.zero_le _, Nat.zero_le _⟩)) (fun r_3 er_3 => ?_)
    replace er_3 := er_3.trans (hfo)
    subst er_3
    refine lv_istore_n (lv' := [(2, .int (nI j)), (0, .ref h), (1, .int x)]) hx hb dM_pin_23 rfl hl (by decide) rfl (fun ls hl => ?_)
    refine lv_iload_n hx hb dM_pin_24 rfl (lv_at hl 0 rfl) ?_
    refine lv_if_lt (tgt := 68) hx hb dM_pin_25 (by decide) (fun c_4 => ?_) (fun c_4 => ?_)
    · exact absurd c_4 (nI_pos (n := j) (by omega))
    · refine lv_aload_n hx hb dM_pin_28 rfl (lv_at hl 1 rfl) ?_
      refine va_get (D := (dC, dI)) (ci := 4) (v := .ref (ad 11)) (C := RM) (T := TM) (N := 24) hx hb hts (inC inM) hown hK hP 0 rfl rfl 13 (by decide) (hq _ wi_479) (fun _ h9 => h9) rfl dM_pin_29 ?_
      refine lv_iload_n hx hb dM_pin_32 rfl (lv_at hl 0 rfl) ?_
      refine lv_dup2_11 hx hb dM_pin_33 rfl rfl ?_
      refine tk_iald (n := j) hx hb hK hP 12 3 rfl rfl rfl hj (by decide) dM_pin_34 ?_
      refine lv_iconst (v := 1) hx hb dM_pin_35 (by decide) ?_
      refine lv_iadd hx hb dM_pin_36 ?_
      refine tk_iast (n := j) hx hb hK hP hD hS 12 3 rfl rfl rfl hj (by decide) dM_pin_37 (fun H locs hP hD hS => ?_)
      have hP : va_P (dC, dI) clB (mw h ad ka 0 mnw mcp mcb mcv mcl mbl mpl mfm mto mfs mls mpg (upd mpn j ((mpn j) + 1)) mus mdi mst mbs mhd men mfl mrd mwn mlf) H := hP
      have hD : va_D A (mw h ad ka 0 mnw mcp mcb mcv mcl mbl mpl mfm mto mfs mls mpg (upd mpn j ((mpn j) + 1)) mus mdi mst mbs mhd men mfl mrd mwn mlf) := mw_D hDw
      refine lv_aload_n hx hb dM_pin_38 rfl (lv_at hl 1 rfl) ?_
      refine va_get (D := (dC, dI)) (ci := 4) (v := .ref (ad 12)) (C := RM) (T := TM) (N := 24) hx hb hts (inC inM) hown hK hP 0 rfl rfl 14 (by decide) (hq _ wi_480) (fun _ h9 => h9) rfl dM_pin_39 ?_
      refine lv_iload_n hx hb dM_pin_42 rfl (lv_at hl 0 rfl) ?_
      refine lv_aload_n hx hb dM_pin_43 rfl (lv_at hl 1 rfl) ?_
      refine va_get (D := (dC, dI)) (ci := 4) (v := .ref (ad 12)) (C := RM) (T := TM) (N := 24) hx hb hts (inC inM) hown hK hP 0 rfl rfl 14 (by decide) (hq _ wi_480) (fun _ h9 => h9) rfl dM_pin_44 ?_
      refine lv_iload_n hx hb dM_pin_47 rfl (lv_at hl 0 rfl) ?_
      refine tk_iald (n := j) hx hb hK hP 13 3 rfl rfl rfl hj (by decide) dM_pin_48 ?_
      refine lv_iconst (v := 3) hx hb dM_pin_49 (by decide) ?_
      refine tk_sel (g1 := F0 m 65 ls (.int (if 3 ≤ (mus j) then 3 else ((mus j) + 1)) :: [.int (nI j), .ref (ad 12)])) (fun hJ_5 => ?_) ?_
      · refine lv_icmp_ge (tgt := 64) hx hb dM_pin_50 (by decide) (fun c_6 => ?_) (fun c_6 => ?_)
        · refine lv_iconst (v := 3) hx hb dM_pin_64 (by decide) ?_
          exact tk_selx (if_pos c_6) hJ_5
        · refine lv_aload_n hx hb dM_pin_53 rfl (lv_at hl 1 rfl) ?_
          refine va_get (D := (dC, dI)) (ci := 4) (v := .ref (ad 12)) (C := RM) (T := TM) (N := 24) hx hb hts (inC inM) hown hK hP 0 rfl rfl 14 (by decide) (hq _ wi_480) (fun _ h9 => h9) rfl dM_pin_54 ?_
          refine lv_iload_n hx hb dM_pin_57 rfl (lv_at hl 0 rfl) ?_
          refine tk_iald (n := j) hx hb hK hP 13 3 rfl rfl rfl hj (by decide) dM_pin_58 ?_
          refine lv_iconst (v := 1) hx hb dM_pin_59 (by decide) ?_
          refine lv_iadd hx hb dM_pin_60 ?_
          refine lv_goto (tgt := 65) hx hb dM_pin_61 (by decide) ?_
          exact tk_selx (if_neg c_6) hJ_5
      refine tk_iast (n := j) hx hb hK hP hD hS 13 3 rfl rfl rfl hj (by decide) dM_pin_65 (fun H locs hP hD hS => ?_)
      have hP : va_P (dC, dI) clB (mw h ad ka 0 mnw mcp mcb mcv mcl mbl mpl mfm mto mfs mls mpg (upd mpn j ((mpn j) + 1)) (upd mus j (if 3 ≤ (mus j) then 3 else ((mus j) + 1))) mdi mst mbs mhd men mfl mrd mwn mlf) H := hP
      have hD : va_D A (mw h ad ka 0 mnw mcp mcb mcv mcl mbl mpl mfm mto mfs mls mpg (upd mpn j ((mpn j) + 1)) (upd mus j (if 3 ≤ (mus j) then 3 else ((mus j) + 1))) mdi mst mbs mhd men mfl mrd mwn mlf) := mw_D hDw
      refine lv_iload_n hx hb dM_pin_66 rfl (lv_at hl 0 rfl) ?_
      exact W.iret (v := (nI j)) hx hb hr (fun t ht hW => ⟨⟨(nI j), (), rfl, rfl, by show va_P _ _ _ t.heap; rw [ht]; exact hP⟩, hS.F ht⟩) hS.2.2 dM_pin_67
  · exact absurd c_2 (by decide)

set_option maxHeartbeats 4000000 in
set_option maxRecDepth 100000 in
theorem c_M_pin_a0 (l : Launch) (dC : Nat → ClassId) (dI : Nat → Nat → Nat) (ka : Nat → ClassId) (sz : Nat) (h : Nat) (ad : Nat → Nat) (mth mnw : Int32) (mcp mcb mcv mcl mbl mpl mfm mto mfs mls mpg mpn mus mdi mst mbs : Nat → Int32) (mhd men mfl mrd mwn mlf : Int32) (x : Int32) (n : Nat) (ex : x = nI n) (hn : n < 192) (hfo : foM mpg x 12 = -1) (hap : apM mpg mpn 12 = 1) : Met l yM_pin wM_pin ({ frames := 1, cells := 0, slots := 0, locals := 23 }) (va_Pc [.ref h, .int x] (fun U => U.heap.size = sz ∧ tk_E dC dI ka U ∧ va_P (dC, dI) clB (mw h ad ka mth mnw mcp mcb mcv mcl mbl mpl mfm mto mfs mls mpg mpn mus mdi mst mbs mhd men mfl mrd mwn mlf) U.heap ∧ va_D (fun _ => True) (mw h ad ka mth mnw mcp mcb mcv mcl mbl mpl mfm mto mfs mls mpg mpn mus mdi mst mbs mhd men mfl mrd mwn mlf))) (va_Qi (fun (r : Int32) (_ : Unit) => r = 0) (fun _ t => va_P (dC, dI) clB (mw h ad ka 2 mnw mcp mcb mcv mcl mbl mpl mfm mto mfs mls mpg mpn mus mdi mst mbs mhd men mfl mrd mwn mlf) t.heap) (va_A (mw h ad ka mth mnw mcp mcb mcv mcl mbl mpl mfm mto mfs mls mpg mpn mus mdi mst mbs mhd men mfl mrd mwn mlf) sz)) 0 0 (va_A (mw h ad ka mth mnw mcp mcb mcv mcl mbl mpl mfm mto mfs mls mpg mpn mus mdi mst mbs mhd men mfl mrd mwn mlf) sz) := by
  refine Met.ofW (cc := cM_pin) (maxL := 3) (ret := (some .int)) (by decide) rfl ?_
  intro p e s m args below meth c s₁ B hml hv
  obtain ⟨rfl, hsz, hE, hP, hD0⟩ := hv
  have hx := B.exec
  have hb := B.bytes
  have hr := B.returns
  have hts := atoms_spec (ws := wM_pin) B.pre
  have hq : ∀ w ∈ lwg, w.before _ s = true := fun w h => hts w (List.mem_cons_of_mem _ h)
  have hown : s.vm.findClass RM = some m.cls := findClass_of_methodNamed B.named
  have hlocks := B.notSynchronized
  have hK := hE.1
  have hN := hE.2
  subst hsz
  have hD := hD0.self (sz := s.heap.size)
  generalize hAe : va_A (mw h ad ka mth mnw mcp mcb mcv mcl mbl mpl mfm mto mfs mls mpg mpn mus mdi mst mbs mhd men mfl mrd mwn mlf) s.heap.size = A at hD ⊢
  have hA : ∀ q : Nat, s.heap.size ≤ q → A q := fun q h => by rw [← hAe]; exact Or.inr h
  have hS : va_S A s.heap s.heap [] := va_S.rf
  have hDw := hD
  have hP : va_P (dC, dI) clB (mw h ad ka mth mnw mcp mcb mcv mcl mbl mpl mfm mto mfs mls mpg mpn mus mdi mst mbs mhd men mfl mrd mwn mlf) s.heap := hP
  have hl := lv_entry ([.ref h, .int x]) (n := 3) (Nat.le_of_ble_eq_true rfl)
  rw [lg_entry_eq]
  generalize (lg_sl ([.ref h, .int x]) ++ List.replicate (3 - (lg_sl ([.ref h, .int x])).length) Slot.unset).toArray = ls at hl ⊢
  have hl : lv_has ls 3 [(0, .ref h), (1, .int x)] := hl
  refine lv_aload_n hx hb dM_pin_0 rfl (lv_at hl 0 rfl) ?_
  refine lv_iconst (v := 0) hx hb dM_pin_1 (by decide) ?_
  refine va_put (D := (dC, dI)) (ci := 4) (v := .int 0) (ty := .int) (C := RM) (T := TM) (N := 24) hx hb hts (inC inM) tyM tyM_ok nmM hown hK hP hD hS 0 rfl rfl 0 (by decide) (hq _ wi_466) (fun _ h9 => h9) rfl (by decide +kernel) rfl rfl (Nat.le_of_ble_eq_true rfl) dM_pin_2 (fun H locs hP hD hS => ?_)
  have hP : va_P (dC, dI) clB (mw h ad ka 0 mnw mcp mcb mcv mcl mbl mpl mfm mto mfs mls mpg mpn mus mdi mst mbs mhd men mfl mrd mwn mlf) H := hP
  have hD : va_D A (mw h ad ka 0 mnw mcp mcb mcv mcl mbl mpl mfm mto mfs mls mpg mpn mus mdi mst mbs mhd men mfl mrd mwn mlf) := mw_D hDw
  refine lv_iload_n hx hb dM_pin_5 rfl (lv_at hl 1 rfl) ?_
  refine vp_callSi (va_Run.run (va_runS (As := [.int x]) (rest := []) ⟨hx, hb, hml, hown, hts⟩ (c_M_isPage l dC dI ka x) (cwS 1 hts (tw_S wi_569 wi_570 wi_28 wi_571) rfl rfl rfl (by decide +kernel) ⟨Nat.le_of_ble_eq_true rfl, Nat.le_of_ble_eq_true rfl⟩) ⟨fun a U g mk q => ⟨q.1, tk_E.call q.2.1, q.2.2⟩, fun U hU hW => ⟨rfl, tk_E.warm hW hE, by rw [hU]; exact (fun _ _ h => nomatch h)⟩⟩ rfl rfl hl.1 rfl (lv_room (Nat.le_of_ble_eq_true rfl)) dM_pin_6 ⟨Nat.zero_le _, Nat.zero_le _⟩)) (fun r_1 er_1 => ?_)
  replace er_1 := er_1.trans (tk_is1 (N := 192) ex hn (by decide))
  subst er_1
  refine lv_if_ne (tgt := 18) hx hb dM_pin_9 (by decide) (fun c_2 => ?_) (fun c_2 => ?_)
  · refine lv_aload_n hx hb dM_pin_18 rfl (lv_at hl 0 rfl) ?_
    refine lv_iload_n hx hb dM_pin_19 rfl (lv_at hl 1 rfl) ?_
    refine vp_callSi (va_Run.run (va_runV (As := [.int x]) (rest := []) ⟨hx, hb, hml, hown, hts⟩ (c_M_frameOf l dC dI ka h ad 0 mnw mcp mcb mcv mcl mbl mpl mfm mto mfs mls mpg mpn mus mdi mst mbs mhd men mfl mrd mwn mlf x ) (cwV 1 hts (tw_V wi_588 wi_590 wi_16 wi_28 wi_591) rfl rfl rfl (by decide +kernel) ⟨Nat.le_of_ble_eq_true rfl, Nat.le_of_ble_eq_true rfl⟩) ⟨fun a U g mk q => ⟨q.1, tk_E.call q.2.1, q.2.2⟩, va_recv hK hP (ci := 4) (q0 := 0) rfl rfl, fun U hU hW => ⟨rfl, tk_E.warm hW hE, by rw [hU]; exact hP⟩⟩ rfl rfl hl.1 rfl (lv_room (Nat.le_of_ble_eq_true rfl)) dM_pin_20 ⟨Nat.zero_le _, Nat.zero_le _⟩)) (fun r_3 er_3 => ?_)
    replace er_3 := er_3.trans (hfo)
    subst er_3
    refine lv_istore_n (lv' := [(2, .int (-1)), (0, .ref h), (1, .int x)]) hx hb dM_pin_23 rfl hl (by decide) rfl (fun ls hl => ?_)
    refine lv_iload_n hx hb dM_pin_24 rfl (lv_at hl 0 rfl) ?_
    refine lv_if_lt (tgt := 68) hx hb dM_pin_25 (by decide) (fun c_4 => ?_) (fun c_4 => ?_)
    · refine lv_aload_n hx hb dM_pin_68 rfl (lv_at hl 1 rfl) ?_
      refine vp_callSi (va_Run.run (va_runV (As := []) (rest := []) ⟨hx, hb, hml, hown, hts⟩ (c_M_allPinned l dC dI ka h ad 0 mnw mcp mcb mcv mcl mbl mpl mfm mto mfs mls mpg mpn mus mdi mst mbs mhd men mfl mrd mwn mlf ) (cwV 0 hts (tw_V wi_592 wi_594 wi_17 wi_28 wi_595) rfl rfl rfl (by decide +kernel) ⟨Nat.le_of_ble_eq_true rfl, Nat.le_of_ble_eq_true rfl⟩) ⟨fun a U g mk q => ⟨q.1, tk_E.call q.2.1, q.2.2⟩, va_recv hK hP (ci := 4) (q0 := 0) rfl rfl, fun U hU hW => ⟨rfl, tk_E.warm hW hE, by rw [hU]; exact hP⟩⟩ rfl rfl hl.1 rfl (lv_room (Nat.le_of_ble_eq_true rfl)) dM_pin_69 ⟨Nat.zero_le _, Nat.zero_le _⟩)) (fun r_5 er_5 => ?_)
      replace er_5 := er_5.trans (hap)
      subst er_5
      refine lv_if_ne (tgt := 83) hx hb dM_pin_72 (by decide) (fun c_6 => ?_) (fun c_6 => ?_)
      · refine lv_aload_n hx hb dM_pin_83 rfl (lv_at hl 1 rfl) ?_
        refine lv_aload_n hx hb dM_pin_84 rfl (lv_at hl 1 rfl) ?_
        refine vp_callSi (va_Run.run (va_runV (As := []) (rest := [.ref h]) ⟨hx, hb, hml, hown, hts⟩ (c_M_allPinned l dC dI ka h ad 0 mnw mcp mcb mcv mcl mbl mpl mfm mto mfs mls mpg mpn mus mdi mst mbs mhd men mfl mrd mwn mlf ) (cwV 0 hts (tw_V wi_592 wi_594 wi_17 wi_28 wi_595) rfl rfl rfl (by decide +kernel) ⟨Nat.le_of_ble_eq_true rfl, Nat.le_of_ble_eq_true rfl⟩) ⟨fun a U g mk q => ⟨q.1, tk_E.call q.2.1, q.2.2⟩, va_recv hK hP (ci := 4) (q0 := 0) rfl rfl, fun U hU hW => ⟨rfl, tk_E.warm hW hE, by rw [hU]; exact hP⟩⟩ rfl rfl hl.1 rfl (lv_room (Nat.le_of_ble_eq_true rfl)) dM_pin_85 ⟨Nat.zero_le _, Nat.zero_le _⟩)) (fun r_7 er_7 => ?_)
        replace er_7 := er_7.trans (hap)
        subst er_7
        refine lv_if_eq (tgt := 95) hx hb dM_pin_88 (by decide) (fun c_8 => ?_) (fun c_8 => ?_)
        · exact absurd c_8 (by decide)
        · refine lv_iconst (v := 2) hx hb dM_pin_91 (by decide) ?_
          refine lv_goto (tgt := 96) hx hb dM_pin_92 (by decide) ?_
          have hFc := tk_freeW hD hS hA
          refine va_calli (va_runV (As := [.int 2]) (rest := []) ⟨hx, hb, hml, hown, hts⟩ (c_M_fails l dC dI ka _ h ad 0 mnw mcp mcb mcv mcl mbl mpl mfm mto mfs mls mpg mpn mus mdi mst mbs mhd men mfl mrd mwn mlf 2 ) (cwV 1 hts (tw_V wi_584 wi_586 wi_15 wi_28 wi_587) rfl rfl rfl (by decide +kernel) ⟨Nat.le_of_ble_eq_true rfl, Nat.le_of_ble_eq_true rfl⟩) ⟨fun a U g mk q => ⟨q.1, q.2.1, tk_E.call q.2.2.1, q.2.2.2⟩, va_recv hK hP (ci := 4) (q0 := 0) rfl rfl, fun U hU hW => ⟨rfl, by rw [hU], tk_E.warm hW hE, by rw [hU]; exact hP, hD.weaken (fun _ _ _ _ => trivial)⟩⟩ rfl rfl hl.1 rfl (lv_room (Nat.le_of_ble_eq_true rfl)) dM_pin_96 ⟨Nat.zero_le _, Nat.zero_le _⟩) hS (fun q _ h => hFc q h) hFc (fun r_10 u_9 t H1 locs ht hvm hw hB hz1 hk1 hS => ?_)
          have hB : va_P (dC, dI) clB (mw h ad ka 2 mnw mcp mcb mcv mcl mbl mpl mfm mto mfs mls mpg mpn mus mdi mst mbs mhd men mfl mrd mwn mlf) H1 := by rw [← ht]; exact hB
          obtain ⟨hP, hD⟩ := (⟨hB, mw_D hDw⟩ : va_P (dC, dI) clB (mw h ad ka 2 mnw mcp mcb mcv mcl mbl mpl mfm mto mfs mls mpg mpn mus mdi mst mbs mhd men mfl mrd mwn mlf) H1 ∧ va_D A (mw h ad ka 2 mnw mcp mcb mcv mcl mbl mpl mfm mto mfs mls mpg mpn mus mdi mst mbs mhd men mfl mrd mwn mlf))
          generalize H1 = H at hP hS ⊢
          have hP : va_P (dC, dI) clB (mw h ad ka 2 mnw mcp mcb mcv mcl mbl mpl mfm mto mfs mls mpg mpn mus mdi mst mbs mhd men mfl mrd mwn mlf) H := hP
          have hD : va_D A (mw h ad ka 2 mnw mcp mcb mcv mcl mbl mpl mfm mto mfs mls mpg mpn mus mdi mst mbs mhd men mfl mrd mwn mlf) := mw_D hDw
          subst hw
          exact W.iret (v := 0) hx hb hr (fun t ht hW => ⟨⟨0, (), rfl, rfl, by show va_P _ _ _ t.heap; rw [ht]; exact hP⟩, hS.F ht⟩) hS.2.2 dM_pin_99
      · exact absurd c_6 (by decide)
    · exact absurd c_4 (by decide)
  · exact absurd c_2 (by decide)

set_option maxHeartbeats 4000000 in
set_option maxRecDepth 100000 in
theorem c_M_pin_t (l : Launch) (dC : Nat → ClassId) (dI : Nat → Nat → Nat) (ka : Nat → ClassId) (sz : Nat) (h : Nat) (ad : Nat → Nat) (mth mnw : Int32) (mcp mcb mcv mcl mbl mpl mfm mto mfs mls mpg mpn mus mdi mst mbs : Nat → Int32) (mhd men mfl mrd mwn mlf : Int32) (x : Int32) (n : Nat) (ex : x = nI n) (hn : n < 192) (hfo : foM mpg x 12 = -1) (hap : apM mpg mpn 12 = 0) (htn : ¬ mfs n = mls n) : Met l yM_pin wM_pin ({ frames := 1, cells := 0, slots := 0, locals := 23 }) (va_Pc [.ref h, .int x] (fun U => U.heap.size = sz ∧ tk_E dC dI ka U ∧ va_P (dC, dI) clB (mw h ad ka mth mnw mcp mcb mcv mcl mbl mpl mfm mto mfs mls mpg mpn mus mdi mst mbs mhd men mfl mrd mwn mlf) U.heap ∧ va_D (fun _ => True) (mw h ad ka mth mnw mcp mcb mcv mcl mbl mpl mfm mto mfs mls mpg mpn mus mdi mst mbs mhd men mfl mrd mwn mlf))) (va_Qi (fun (r : Int32) (_ : Unit) => r = 0) (fun _ t => va_P (dC, dI) clB (mw h ad ka 3 mnw mcp mcb mcv mcl mbl mpl mfm mto mfs mls mpg mpn mus mdi mst mbs mhd men mfl mrd mwn mlf) t.heap) (va_A (mw h ad ka mth mnw mcp mcb mcv mcl mbl mpl mfm mto mfs mls mpg mpn mus mdi mst mbs mhd men mfl mrd mwn mlf) sz)) 0 0 (va_A (mw h ad ka mth mnw mcp mcb mcv mcl mbl mpl mfm mto mfs mls mpg mpn mus mdi mst mbs mhd men mfl mrd mwn mlf) sz) := by
  refine Met.ofW (cc := cM_pin) (maxL := 3) (ret := (some .int)) (by decide) rfl ?_
  intro p e s m args below meth c s₁ B hml hv
  obtain ⟨rfl, hsz, hE, hP, hD0⟩ := hv
  have hx := B.exec
  have hb := B.bytes
  have hr := B.returns
  have hts := atoms_spec (ws := wM_pin) B.pre
  have hq : ∀ w ∈ lwg, w.before _ s = true := fun w h => hts w (List.mem_cons_of_mem _ h)
  have hown : s.vm.findClass RM = some m.cls := findClass_of_methodNamed B.named
  have hlocks := B.notSynchronized
  have hK := hE.1
  have hN := hE.2
  subst hsz
  have hD := hD0.self (sz := s.heap.size)
  generalize hAe : va_A (mw h ad ka mth mnw mcp mcb mcv mcl mbl mpl mfm mto mfs mls mpg mpn mus mdi mst mbs mhd men mfl mrd mwn mlf) s.heap.size = A at hD ⊢
  have hA : ∀ q : Nat, s.heap.size ≤ q → A q := fun q h => by rw [← hAe]; exact Or.inr h
  have hS : va_S A s.heap s.heap [] := va_S.rf
  have hDw := hD
  have hP : va_P (dC, dI) clB (mw h ad ka mth mnw mcp mcb mcv mcl mbl mpl mfm mto mfs mls mpg mpn mus mdi mst mbs mhd men mfl mrd mwn mlf) s.heap := hP
  have hl := lv_entry ([.ref h, .int x]) (n := 3) (Nat.le_of_ble_eq_true rfl)
  rw [lg_entry_eq]
  generalize (lg_sl ([.ref h, .int x]) ++ List.replicate (3 - (lg_sl ([.ref h, .int x])).length) Slot.unset).toArray = ls at hl ⊢
  have hl : lv_has ls 3 [(0, .ref h), (1, .int x)] := hl
  refine lv_aload_n hx hb dM_pin_0 rfl (lv_at hl 0 rfl) ?_
  refine lv_iconst (v := 0) hx hb dM_pin_1 (by decide) ?_
  refine va_put (D := (dC, dI)) (ci := 4) (v := .int 0) (ty := .int) (C := RM) (T := TM) (N := 24) hx hb hts (inC inM) tyM tyM_ok nmM hown hK hP hD hS 0 rfl rfl 0 (by decide) (hq _ wi_466) (fun _ h9 => h9) rfl (by decide +kernel) rfl rfl (Nat.le_of_ble_eq_true rfl) dM_pin_2 (fun H locs hP hD hS => ?_)
  have hP : va_P (dC, dI) clB (mw h ad ka 0 mnw mcp mcb mcv mcl mbl mpl mfm mto mfs mls mpg mpn mus mdi mst mbs mhd men mfl mrd mwn mlf) H := hP
  have hD : va_D A (mw h ad ka 0 mnw mcp mcb mcv mcl mbl mpl mfm mto mfs mls mpg mpn mus mdi mst mbs mhd men mfl mrd mwn mlf) := mw_D hDw
  refine lv_iload_n hx hb dM_pin_5 rfl (lv_at hl 1 rfl) ?_
  refine vp_callSi (va_Run.run (va_runS (As := [.int x]) (rest := []) ⟨hx, hb, hml, hown, hts⟩ (c_M_isPage l dC dI ka x) (cwS 1 hts (tw_S wi_569 wi_570 wi_28 wi_571) rfl rfl rfl (by decide +kernel) ⟨Nat.le_of_ble_eq_true rfl, Nat.le_of_ble_eq_true rfl⟩) ⟨fun a U g mk q => ⟨q.1, tk_E.call q.2.1, q.2.2⟩, fun U hU hW => ⟨rfl, tk_E.warm hW hE, by rw [hU]; exact (fun _ _ h => nomatch h)⟩⟩ rfl rfl hl.1 rfl (lv_room (Nat.le_of_ble_eq_true rfl)) dM_pin_6 ⟨Nat.zero_le _, Nat.zero_le _⟩)) (fun r_1 er_1 => ?_)
  replace er_1 := er_1.trans (tk_is1 (N := 192) ex hn (by decide))
  subst er_1
  refine lv_if_ne (tgt := 18) hx hb dM_pin_9 (by decide) (fun c_2 => ?_) (fun c_2 => ?_)
  · refine lv_aload_n hx hb dM_pin_18 rfl (lv_at hl 0 rfl) ?_
    refine lv_iload_n hx hb dM_pin_19 rfl (lv_at hl 1 rfl) ?_
    refine vp_callSi (va_Run.run (va_runV (As := [.int x]) (rest := []) ⟨hx, hb, hml, hown, hts⟩ (c_M_frameOf l dC dI ka h ad 0 mnw mcp mcb mcv mcl mbl mpl mfm mto mfs mls mpg mpn mus mdi mst mbs mhd men mfl mrd mwn mlf x ) (cwV 1 hts (tw_V wi_588 wi_590 wi_16 wi_28 wi_591) rfl rfl rfl (by decide +kernel) ⟨Nat.le_of_ble_eq_true rfl, Nat.le_of_ble_eq_true rfl⟩) ⟨fun a U g mk q => ⟨q.1, tk_E.call q.2.1, q.2.2⟩, va_recv hK hP (ci := 4) (q0 := 0) rfl rfl, fun U hU hW => ⟨rfl, tk_E.warm hW hE, by rw [hU]; exact hP⟩⟩ rfl rfl hl.1 rfl (lv_room (Nat.le_of_ble_eq_true rfl)) dM_pin_20 ⟨Nat.zero_le _, Nat.zero_le _⟩)) (fun r_3 er_3 => ?_)
    replace er_3 := er_3.trans (hfo)
    subst er_3
    refine lv_istore_n (lv' := [(2, .int (-1)), (0, .ref h), (1, .int x)]) hx hb dM_pin_23 rfl hl (by decide) rfl (fun ls hl => ?_)
    refine lv_iload_n hx hb dM_pin_24 rfl (lv_at hl 0 rfl) ?_
    refine lv_if_lt (tgt := 68) hx hb dM_pin_25 (by decide) (fun c_4 => ?_) (fun c_4 => ?_)
    · refine lv_aload_n hx hb dM_pin_68 rfl (lv_at hl 1 rfl) ?_
      refine vp_callSi (va_Run.run (va_runV (As := []) (rest := []) ⟨hx, hb, hml, hown, hts⟩ (c_M_allPinned l dC dI ka h ad 0 mnw mcp mcb mcv mcl mbl mpl mfm mto mfs mls mpg mpn mus mdi mst mbs mhd men mfl mrd mwn mlf ) (cwV 0 hts (tw_V wi_592 wi_594 wi_17 wi_28 wi_595) rfl rfl rfl (by decide +kernel) ⟨Nat.le_of_ble_eq_true rfl, Nat.le_of_ble_eq_true rfl⟩) ⟨fun a U g mk q => ⟨q.1, tk_E.call q.2.1, q.2.2⟩, va_recv hK hP (ci := 4) (q0 := 0) rfl rfl, fun U hU hW => ⟨rfl, tk_E.warm hW hE, by rw [hU]; exact hP⟩⟩ rfl rfl hl.1 rfl (lv_room (Nat.le_of_ble_eq_true rfl)) dM_pin_69 ⟨Nat.zero_le _, Nat.zero_le _⟩)) (fun r_5 er_5 => ?_)
      replace er_5 := er_5.trans (hap)
      subst er_5
      refine lv_if_ne (tgt := 83) hx hb dM_pin_72 (by decide) (fun c_6 => ?_) (fun c_6 => ?_)
      · exact absurd c_6 (by decide)
      · refine lv_aload_n hx hb dM_pin_75 rfl (lv_at hl 1 rfl) ?_
        refine lv_iload_n hx hb dM_pin_76 rfl (lv_at hl 2 rfl) ?_
        refine vp_callSi (va_Run.run (va_runV (As := [.int x]) (rest := []) ⟨hx, hb, hml, hown, hts⟩ (c_M_isTorn l dC dI ka h ad 0 mnw mcp mcb mcv mcl mbl mpl mfm mto mfs mls mpg mpn mus mdi mst mbs mhd men mfl mrd mwn mlf x n ex hn) (cwV 1 hts (tw_V wi_576 wi_578 wi_14 wi_28 wi_579) rfl rfl rfl (by decide +kernel) ⟨Nat.le_of_ble_eq_true rfl, Nat.le_of_ble_eq_true rfl⟩) ⟨fun a U g mk q => ⟨q.1, tk_E.call q.2.1, q.2.2⟩, va_recv hK hP (ci := 4) (q0 := 0) rfl rfl, fun U hU hW => ⟨rfl, tk_E.warm hW hE, by rw [hU]; exact hP⟩⟩ rfl rfl hl.1 rfl (lv_room (Nat.le_of_ble_eq_true rfl)) dM_pin_77 ⟨Nat.zero_le _, Nat.zero_le _⟩)) (fun r_7 er_7 => ?_)
        replace er_7 := er_7.trans (if_neg htn)
        subst er_7
        refine lv_if_eq (tgt := 100) hx hb dM_pin_80 (by decide) (fun c_8 => ?_) (fun c_8 => ?_)
        · exact absurd c_8 (by decide)
        · refine lv_aload_n hx hb dM_pin_83 rfl (lv_at hl 1 rfl) ?_
          refine lv_aload_n hx hb dM_pin_84 rfl (lv_at hl 1 rfl) ?_
          refine vp_callSi (va_Run.run (va_runV (As := []) (rest := [.ref h]) ⟨hx, hb, hml, hown, hts⟩ (c_M_allPinned l dC dI ka h ad 0 mnw mcp mcb mcv mcl mbl mpl mfm mto mfs mls mpg mpn mus mdi mst mbs mhd men mfl mrd mwn mlf ) (cwV 0 hts (tw_V wi_592 wi_594 wi_17 wi_28 wi_595) rfl rfl rfl (by decide +kernel) ⟨Nat.le_of_ble_eq_true rfl, Nat.le_of_ble_eq_true rfl⟩) ⟨fun a U g mk q => ⟨q.1, tk_E.call q.2.1, q.2.2⟩, va_recv hK hP (ci := 4) (q0 := 0) rfl rfl, fun U hU hW => ⟨rfl, tk_E.warm hW hE, by rw [hU]; exact hP⟩⟩ rfl rfl hl.1 rfl (lv_room (Nat.le_of_ble_eq_true rfl)) dM_pin_85 ⟨Nat.zero_le _, Nat.zero_le _⟩)) (fun r_9 er_9 => ?_)
          replace er_9 := er_9.trans (hap)
          subst er_9
          refine lv_if_eq (tgt := 95) hx hb dM_pin_88 (by decide) (fun c_10 => ?_) (fun c_10 => ?_)
          · refine lv_iconst (v := 3) hx hb dM_pin_95 (by decide) ?_
            have hFc := tk_freeW hD hS hA
            refine va_calli (va_runV (As := [.int 3]) (rest := []) ⟨hx, hb, hml, hown, hts⟩ (c_M_fails l dC dI ka _ h ad 0 mnw mcp mcb mcv mcl mbl mpl mfm mto mfs mls mpg mpn mus mdi mst mbs mhd men mfl mrd mwn mlf 3 ) (cwV 1 hts (tw_V wi_584 wi_586 wi_15 wi_28 wi_587) rfl rfl rfl (by decide +kernel) ⟨Nat.le_of_ble_eq_true rfl, Nat.le_of_ble_eq_true rfl⟩) ⟨fun a U g mk q => ⟨q.1, q.2.1, tk_E.call q.2.2.1, q.2.2.2⟩, va_recv hK hP (ci := 4) (q0 := 0) rfl rfl, fun U hU hW => ⟨rfl, by rw [hU], tk_E.warm hW hE, by rw [hU]; exact hP, hD.weaken (fun _ _ _ _ => trivial)⟩⟩ rfl rfl hl.1 rfl (lv_room (Nat.le_of_ble_eq_true rfl)) dM_pin_96 ⟨Nat.zero_le _, Nat.zero_le _⟩) hS (fun q _ h => hFc q h) hFc (fun r_12 u_11 t H1 locs ht hvm hw hB hz1 hk1 hS => ?_)
            have hB : va_P (dC, dI) clB (mw h ad ka 3 mnw mcp mcb mcv mcl mbl mpl mfm mto mfs mls mpg mpn mus mdi mst mbs mhd men mfl mrd mwn mlf) H1 := by rw [← ht]; exact hB
            obtain ⟨hP, hD⟩ := (⟨hB, mw_D hDw⟩ : va_P (dC, dI) clB (mw h ad ka 3 mnw mcp mcb mcv mcl mbl mpl mfm mto mfs mls mpg mpn mus mdi mst mbs mhd men mfl mrd mwn mlf) H1 ∧ va_D A (mw h ad ka 3 mnw mcp mcb mcv mcl mbl mpl mfm mto mfs mls mpg mpn mus mdi mst mbs mhd men mfl mrd mwn mlf))
            generalize H1 = H at hP hS ⊢
            have hP : va_P (dC, dI) clB (mw h ad ka 3 mnw mcp mcb mcv mcl mbl mpl mfm mto mfs mls mpg mpn mus mdi mst mbs mhd men mfl mrd mwn mlf) H := hP
            have hD : va_D A (mw h ad ka 3 mnw mcp mcb mcv mcl mbl mpl mfm mto mfs mls mpg mpn mus mdi mst mbs mhd men mfl mrd mwn mlf) := mw_D hDw
            subst hw
            exact W.iret (v := 0) hx hb hr (fun t ht hW => ⟨⟨0, (), rfl, rfl, by show va_P _ _ _ t.heap; rw [ht]; exact hP⟩, hS.F ht⟩) hS.2.2 dM_pin_99
          · exact absurd c_10 (by decide)
    · exact absurd c_4 (by decide)
  · exact absurd c_2 (by decide)

set_option maxHeartbeats 4000000 in
set_option maxRecDepth 100000 in
theorem c_M_pin_e (l : Launch) (dC : Nat → ClassId) (dI : Nat → Nat → Nat) (ka : Nat → ClassId) (sz : Nat) (h : Nat) (ad : Nat → Nat) (mth mnw : Int32) (mcp mcb mcv mcl mbl mpl mfm mto mfs mls mpg mpn mus mdi mst mbs : Nat → Int32) (mhd men mfl mrd mwn mlf : Int32) (x : Int32) (n : Nat) (f0 : Nat) (ex : x = nI n) (hn : n < 192) (hfo : foM mpg x 12 = -1) (hap : apM mpg mpn 12 = 0) (hnt : mfs n = mls n) (hf0 : f0 < 12) (hfe : mpg f0 < 0) (hfl : ∀ j, j < f0 → ¬ mpg j < 0) : Met l yM_pin wM_pin ({ frames := 1, cells := 0, slots := 0, locals := 23 }) (va_Pc [.ref h, .int x] (fun U => U.heap.size = sz ∧ tk_E dC dI ka U ∧ va_P (dC, dI) clB (mw h ad ka mth mnw mcp mcb mcv mcl mbl mpl mfm mto mfs mls mpg mpn mus mdi mst mbs mhd men mfl mrd mwn mlf) U.heap ∧ va_D (fun _ => True) (mw h ad ka mth mnw mcp mcb mcv mcl mbl mpl mfm mto mfs mls mpg mpn mus mdi mst mbs mhd men mfl mrd mwn mlf))) (va_Qi (fun (r : Int32) (_ : Unit) => r = nI f0) (fun _ t => va_P (dC, dI) clB (mw h ad ka 0 mnw mcp mcb mcv mcl mbl mpl mfm mto mfs mls (upd mpg f0 x) (upd mpn f0 1) (upd mus f0 1) (upd mdi f0 0) (upd mst f0 (mfs n)) (upd mbs f0 (mfm (8 * n))) mhd men mfl (mrd + 1) mwn mlf) t.heap) (va_A (mw h ad ka mth mnw mcp mcb mcv mcl mbl mpl mfm mto mfs mls mpg mpn mus mdi mst mbs mhd men mfl mrd mwn mlf) sz)) 0 0 (va_A (mw h ad ka mth mnw mcp mcb mcv mcl mbl mpl mfm mto mfs mls mpg mpn mus mdi mst mbs mhd men mfl mrd mwn mlf) sz) := by
  refine Met.ofW (cc := cM_pin) (maxL := 3) (ret := (some .int)) (by decide) rfl ?_
  intro p e s m args below meth c s₁ B hml hv
  obtain ⟨rfl, hsz, hE, hP, hD0⟩ := hv
  have hx := B.exec
  have hb := B.bytes
  have hr := B.returns
  have hts := atoms_spec (ws := wM_pin) B.pre
  have hq : ∀ w ∈ lwg, w.before _ s = true := fun w h => hts w (List.mem_cons_of_mem _ h)
  have hown : s.vm.findClass RM = some m.cls := findClass_of_methodNamed B.named
  have hlocks := B.notSynchronized
  have hK := hE.1
  have hN := hE.2
  subst hsz
  have hD := hD0.self (sz := s.heap.size)
  generalize hAe : va_A (mw h ad ka mth mnw mcp mcb mcv mcl mbl mpl mfm mto mfs mls mpg mpn mus mdi mst mbs mhd men mfl mrd mwn mlf) s.heap.size = A at hD ⊢
  have hA : ∀ q : Nat, s.heap.size ≤ q → A q := fun q h => by rw [← hAe]; exact Or.inr h
  have hS : va_S A s.heap s.heap [] := va_S.rf
  have hDw := hD
  have hP : va_P (dC, dI) clB (mw h ad ka mth mnw mcp mcb mcv mcl mbl mpl mfm mto mfs mls mpg mpn mus mdi mst mbs mhd men mfl mrd mwn mlf) s.heap := hP
  have hl := lv_entry ([.ref h, .int x]) (n := 3) (Nat.le_of_ble_eq_true rfl)
  rw [lg_entry_eq]
  generalize (lg_sl ([.ref h, .int x]) ++ List.replicate (3 - (lg_sl ([.ref h, .int x])).length) Slot.unset).toArray = ls at hl ⊢
  have hl : lv_has ls 3 [(0, .ref h), (1, .int x)] := hl
  refine lv_aload_n hx hb dM_pin_0 rfl (lv_at hl 0 rfl) ?_
  refine lv_iconst (v := 0) hx hb dM_pin_1 (by decide) ?_
  refine va_put (D := (dC, dI)) (ci := 4) (v := .int 0) (ty := .int) (C := RM) (T := TM) (N := 24) hx hb hts (inC inM) tyM tyM_ok nmM hown hK hP hD hS 0 rfl rfl 0 (by decide) (hq _ wi_466) (fun _ h9 => h9) rfl (by decide +kernel) rfl rfl (Nat.le_of_ble_eq_true rfl) dM_pin_2 (fun H locs hP hD hS => ?_)
  have hP : va_P (dC, dI) clB (mw h ad ka 0 mnw mcp mcb mcv mcl mbl mpl mfm mto mfs mls mpg mpn mus mdi mst mbs mhd men mfl mrd mwn mlf) H := hP
  have hD : va_D A (mw h ad ka 0 mnw mcp mcb mcv mcl mbl mpl mfm mto mfs mls mpg mpn mus mdi mst mbs mhd men mfl mrd mwn mlf) := mw_D hDw
  refine lv_iload_n hx hb dM_pin_5 rfl (lv_at hl 1 rfl) ?_
  refine vp_callSi (va_Run.run (va_runS (As := [.int x]) (rest := []) ⟨hx, hb, hml, hown, hts⟩ (c_M_isPage l dC dI ka x) (cwS 1 hts (tw_S wi_569 wi_570 wi_28 wi_571) rfl rfl rfl (by decide +kernel) ⟨Nat.le_of_ble_eq_true rfl, Nat.le_of_ble_eq_true rfl⟩) ⟨fun a U g mk q => ⟨q.1, tk_E.call q.2.1, q.2.2⟩, fun U hU hW => ⟨rfl, tk_E.warm hW hE, by rw [hU]; exact (fun _ _ h => nomatch h)⟩⟩ rfl rfl hl.1 rfl (lv_room (Nat.le_of_ble_eq_true rfl)) dM_pin_6 ⟨Nat.zero_le _, Nat.zero_le _⟩)) (fun r_1 er_1 => ?_)
  replace er_1 := er_1.trans (tk_is1 (N := 192) ex hn (by decide))
  subst er_1
  refine lv_if_ne (tgt := 18) hx hb dM_pin_9 (by decide) (fun c_2 => ?_) (fun c_2 => ?_)
  · refine lv_aload_n hx hb dM_pin_18 rfl (lv_at hl 0 rfl) ?_
    refine lv_iload_n hx hb dM_pin_19 rfl (lv_at hl 1 rfl) ?_
    refine vp_callSi (va_Run.run (va_runV (As := [.int x]) (rest := []) ⟨hx, hb, hml, hown, hts⟩ (c_M_frameOf l dC dI ka h ad 0 mnw mcp mcb mcv mcl mbl mpl mfm mto mfs mls mpg mpn mus mdi mst mbs mhd men mfl mrd mwn mlf x ) (cwV 1 hts (tw_V wi_588 wi_590 wi_16 wi_28 wi_591) rfl rfl rfl (by decide +kernel) ⟨Nat.le_of_ble_eq_true rfl, Nat.le_of_ble_eq_true rfl⟩) ⟨fun a U g mk q => ⟨q.1, tk_E.call q.2.1, q.2.2⟩, va_recv hK hP (ci := 4) (q0 := 0) rfl rfl, fun U hU hW => ⟨rfl, tk_E.warm hW hE, by rw [hU]; exact hP⟩⟩ rfl rfl hl.1 rfl (lv_room (Nat.le_of_ble_eq_true rfl)) dM_pin_20 ⟨Nat.zero_le _, Nat.zero_le _⟩)) (fun r_3 er_3 => ?_)
    replace er_3 := er_3.trans (hfo)
    subst er_3
    refine lv_istore_n (lv' := [(2, .int (-1)), (0, .ref h), (1, .int x)]) hx hb dM_pin_23 rfl hl (by decide) rfl (fun ls hl => ?_)
    refine lv_iload_n hx hb dM_pin_24 rfl (lv_at hl 0 rfl) ?_
    refine lv_if_lt (tgt := 68) hx hb dM_pin_25 (by decide) (fun c_4 => ?_) (fun c_4 => ?_)
    · refine lv_aload_n hx hb dM_pin_68 rfl (lv_at hl 1 rfl) ?_
      refine vp_callSi (va_Run.run (va_runV (As := []) (rest := []) ⟨hx, hb, hml, hown, hts⟩ (c_M_allPinned l dC dI ka h ad 0 mnw mcp mcb mcv mcl mbl mpl mfm mto mfs mls mpg mpn mus mdi mst mbs mhd men mfl mrd mwn mlf ) (cwV 0 hts (tw_V wi_592 wi_594 wi_17 wi_28 wi_595) rfl rfl rfl (by decide +kernel) ⟨Nat.le_of_ble_eq_true rfl, Nat.le_of_ble_eq_true rfl⟩) ⟨fun a U g mk q => ⟨q.1, tk_E.call q.2.1, q.2.2⟩, va_recv hK hP (ci := 4) (q0 := 0) rfl rfl, fun U hU hW => ⟨rfl, tk_E.warm hW hE, by rw [hU]; exact hP⟩⟩ rfl rfl hl.1 rfl (lv_room (Nat.le_of_ble_eq_true rfl)) dM_pin_69 ⟨Nat.zero_le _, Nat.zero_le _⟩)) (fun r_5 er_5 => ?_)
      replace er_5 := er_5.trans (hap)
      subst er_5
      refine lv_if_ne (tgt := 83) hx hb dM_pin_72 (by decide) (fun c_6 => ?_) (fun c_6 => ?_)
      · exact absurd c_6 (by decide)
      · refine lv_aload_n hx hb dM_pin_75 rfl (lv_at hl 1 rfl) ?_
        refine lv_iload_n hx hb dM_pin_76 rfl (lv_at hl 2 rfl) ?_
        refine vp_callSi (va_Run.run (va_runV (As := [.int x]) (rest := []) ⟨hx, hb, hml, hown, hts⟩ (c_M_isTorn l dC dI ka h ad 0 mnw mcp mcb mcv mcl mbl mpl mfm mto mfs mls mpg mpn mus mdi mst mbs mhd men mfl mrd mwn mlf x n ex hn) (cwV 1 hts (tw_V wi_576 wi_578 wi_14 wi_28 wi_579) rfl rfl rfl (by decide +kernel) ⟨Nat.le_of_ble_eq_true rfl, Nat.le_of_ble_eq_true rfl⟩) ⟨fun a U g mk q => ⟨q.1, tk_E.call q.2.1, q.2.2⟩, va_recv hK hP (ci := 4) (q0 := 0) rfl rfl, fun U hU hW => ⟨rfl, tk_E.warm hW hE, by rw [hU]; exact hP⟩⟩ rfl rfl hl.1 rfl (lv_room (Nat.le_of_ble_eq_true rfl)) dM_pin_77 ⟨Nat.zero_le _, Nat.zero_le _⟩)) (fun r_7 er_7 => ?_)
        replace er_7 := er_7.trans (if_pos hnt)
        subst er_7
        refine lv_if_eq (tgt := 100) hx hb dM_pin_80 (by decide) (fun c_8 => ?_) (fun c_8 => ?_)
        · refine lv_aload_n hx hb dM_pin_100 rfl (lv_at hl 1 rfl) ?_
          have hFc := tk_freeW hD hS hA
          refine va_calli (va_runV (As := []) (rest := []) ⟨hx, hb, hml, hown, hts⟩ (c_M_found_e l dC dI ka _ h ad 0 mnw mcp mcb mcv mcl mbl mpl mfm mto mfs mls mpg mpn mus mdi mst mbs mhd men mfl mrd mwn mlf f0 hf0 hfe hfl) (cwV 0 hts (tw_V wi_596 wi_598 wi_18 wi_28 wi_599) rfl rfl rfl (by decide +kernel) ⟨Nat.le_of_ble_eq_true rfl, Nat.le_of_ble_eq_true rfl⟩) ⟨fun a U g mk q => ⟨q.1, q.2.1, tk_E.call q.2.2.1, q.2.2.2⟩, va_recv hK hP (ci := 4) (q0 := 0) rfl rfl, fun U hU hW => ⟨rfl, by rw [hU], tk_E.warm hW hE, by rw [hU]; exact hP, hD.weaken (fun _ _ _ _ => trivial)⟩⟩ rfl rfl hl.1 rfl (lv_room (Nat.le_of_ble_eq_true rfl)) dM_pin_101 ⟨Nat.zero_le _, Nat.zero_le _⟩) hS (fun q _ h => hFc q h) hFc (fun r_10 u_9 t H1 locs ht hvm hw hB hz1 hk1 hS => ?_)
          have hB : va_P (dC, dI) clB (mw h ad ka 0 mnw mcp mcb mcv mcl mbl mpl mfm mto mfs mls mpg mpn mus mdi mst mbs mhd men mfl mrd mwn mlf) H1 := by rw [← ht]; exact hB
          obtain ⟨hP, hD⟩ := (⟨hB, mw_D hDw⟩ : va_P (dC, dI) clB (mw h ad ka 0 mnw mcp mcb mcv mcl mbl mpl mfm mto mfs mls mpg mpn mus mdi mst mbs mhd men mfl mrd mwn mlf) H1 ∧ va_D A (mw h ad ka 0 mnw mcp mcb mcv mcl mbl mpl mfm mto mfs mls mpg mpn mus mdi mst mbs mhd men mfl mrd mwn mlf))
          generalize H1 = H at hP hS ⊢
          have hP : va_P (dC, dI) clB (mw h ad ka 0 mnw mcp mcb mcv mcl mbl mpl mfm mto mfs mls mpg mpn mus mdi mst mbs mhd men mfl mrd mwn mlf) H := hP
          have hD : va_D A (mw h ad ka 0 mnw mcp mcb mcv mcl mbl mpl mfm mto mfs mls mpg mpn mus mdi mst mbs mhd men mfl mrd mwn mlf) := mw_D hDw
          subst hw
          refine lv_istore_n (lv' := [(2, .int (nI f0)), (0, .ref h), (1, .int x)]) hx hb dM_pin_104 rfl hl (by decide) rfl (fun ls hl => ?_)
          refine lv_iload_n hx hb dM_pin_105 rfl (lv_at hl 0 rfl) ?_
          refine lv_if_ge (tgt := 115) hx hb dM_pin_106 (by decide) (fun c_11 => ?_) (fun c_11 => ?_)
          · refine lv_aload_n hx hb dM_pin_115 rfl (lv_at hl 1 rfl) ?_
            refine lv_dup hx hb dM_pin_116 rfl ?_
            refine va_get (D := (dC, dI)) (ci := 4) (v := .int mrd) (C := RM) (T := TM) (N := 24) hx hb hts (inC inM) hown hK hP 0 rfl rfl 21 (by decide) (hq _ wi_487) (fun _ h9 => h9) rfl dM_pin_117 ?_
            refine lv_iconst (v := 1) hx hb dM_pin_120 (by decide) ?_
            refine lv_iadd hx hb dM_pin_121 ?_
            refine va_put (D := (dC, dI)) (ci := 4) (v := .int (mrd + 1)) (ty := .int) (C := RM) (T := TM) (N := 24) hx hb hts (inC inM) tyM tyM_ok nmM hown hK hP hD hS 0 rfl rfl 21 (by decide) (hq _ wi_487) (fun _ h9 => h9) rfl (by decide +kernel) rfl rfl (Nat.le_of_ble_eq_true rfl) dM_pin_122 (fun H locs hP hD hS => ?_)
            have hP : va_P (dC, dI) clB (mw h ad ka 0 mnw mcp mcb mcv mcl mbl mpl mfm mto mfs mls mpg mpn mus mdi mst mbs mhd men mfl (mrd + 1) mwn mlf) H := hP
            have hD : va_D A (mw h ad ka 0 mnw mcp mcb mcv mcl mbl mpl mfm mto mfs mls mpg mpn mus mdi mst mbs mhd men mfl (mrd + 1) mwn mlf) := mw_D hDw
            refine lv_aload_n hx hb dM_pin_125 rfl (lv_at hl 1 rfl) ?_
            refine lv_iload_n hx hb dM_pin_126 rfl (lv_at hl 0 rfl) ?_
            refine lv_iload_n hx hb dM_pin_127 rfl (lv_at hl 2 rfl) ?_
            refine lv_aload_n hx hb dM_pin_128 rfl (lv_at hl 1 rfl) ?_
            refine va_get (D := (dC, dI)) (ci := 4) (v := .ref (ad 6)) (C := RM) (T := TM) (N := 24) hx hb hts (inC inM) hown hK hP 0 rfl rfl 8 (by decide) (hq _ wi_474) (fun _ h9 => h9) rfl dM_pin_129 ?_
            refine lv_bipush (v := 8) hx hb dM_pin_132 (by decide) ?_
            refine lv_iload_n hx hb dM_pin_134 rfl (lv_at hl 2 rfl) ?_
            refine lv_imul hx hb dM_pin_135 ?_
            refine tk_sald (n := (8 * n)) hx hb hK hP 7 2 rfl rfl (by rw [ex]; exact sec_i0) (by omega) (by decide) dM_pin_136 ?_
            have hFc := tk_freeW hD hS hA
            refine va_callv (va_runV (As := [.int (nI f0), .int x, .int (mfm (8 * n))]) (rest := []) ⟨hx, hb, hml, hown, hts⟩ (c_M_fill l dC dI ka _ h ad 0 mnw mcp mcb mcv mcl mbl mpl mfm mto mfs mls mpg mpn mus mdi mst mbs mhd men mfl (mrd + 1) mwn mlf (nI f0) x (mfm (8 * n)) f0 n rfl hf0 ex hn) (cwV 3 hts (tw_V wi_609 wi_611 wi_21 wi_28 wi_612) rfl rfl rfl (by decide +kernel) ⟨Nat.le_of_ble_eq_true rfl, Nat.le_of_ble_eq_true rfl⟩) ⟨fun a U g mk q => ⟨q.1, q.2.1, tk_E.call q.2.2.1, q.2.2.2⟩, va_recv hK hP (ci := 4) (q0 := 0) rfl rfl, fun U hU hW => ⟨rfl, by rw [hU], tk_E.warm hW hE, by rw [hU]; exact hP, hD.weaken (fun _ _ _ _ => trivial)⟩⟩ rfl rfl hl.1 rfl (lv_room (Nat.le_of_ble_eq_true rfl)) dM_pin_137 ⟨Nat.zero_le _, Nat.zero_le _⟩) hS (fun q _ h => hFc q h) hFc (fun u_12 t H1 locs ht hvm hw hB hz1 hk1 hS => ?_)
            have hB : va_P (dC, dI) clB (mw h ad ka 0 mnw mcp mcb mcv mcl mbl mpl mfm mto mfs mls (upd mpg f0 x) (upd mpn f0 1) (upd mus f0 1) (upd mdi f0 0) (upd mst f0 (mfs n)) (upd mbs f0 (mfm (8 * n))) mhd men mfl (mrd + 1) mwn mlf) H1 := by rw [← ht]; exact hB
            obtain ⟨hP, hD⟩ := (⟨hB, mw_D hDw⟩ : va_P (dC, dI) clB (mw h ad ka 0 mnw mcp mcb mcv mcl mbl mpl mfm mto mfs mls (upd mpg f0 x) (upd mpn f0 1) (upd mus f0 1) (upd mdi f0 0) (upd mst f0 (mfs n)) (upd mbs f0 (mfm (8 * n))) mhd men mfl (mrd + 1) mwn mlf) H1 ∧ va_D A (mw h ad ka 0 mnw mcp mcb mcv mcl mbl mpl mfm mto mfs mls (upd mpg f0 x) (upd mpn f0 1) (upd mus f0 1) (upd mdi f0 0) (upd mst f0 (mfs n)) (upd mbs f0 (mfm (8 * n))) mhd men mfl (mrd + 1) mwn mlf))
            generalize H1 = H at hP hS ⊢
            have hP : va_P (dC, dI) clB (mw h ad ka 0 mnw mcp mcb mcv mcl mbl mpl mfm mto mfs mls (upd mpg f0 x) (upd mpn f0 1) (upd mus f0 1) (upd mdi f0 0) (upd mst f0 (mfs n)) (upd mbs f0 (mfm (8 * n))) mhd men mfl (mrd + 1) mwn mlf) H := hP
            have hD : va_D A (mw h ad ka 0 mnw mcp mcb mcv mcl mbl mpl mfm mto mfs mls (upd mpg f0 x) (upd mpn f0 1) (upd mus f0 1) (upd mdi f0 0) (upd mst f0 (mfs n)) (upd mbs f0 (mfm (8 * n))) mhd men mfl (mrd + 1) mwn mlf) := mw_D hDw
            refine lv_iload_n hx hb dM_pin_140 rfl (lv_at hl 0 rfl) ?_
            exact W.iret (v := (nI f0)) hx hb hr (fun t ht hW => ⟨⟨(nI f0), (), rfl, rfl, by show va_P _ _ _ t.heap; rw [ht]; exact hP⟩, hS.F ht⟩) hS.2.2 dM_pin_141
          · exact absurd (nI_pos' (n := f0) (by omega)) c_11
        · exact absurd c_8 (by decide)
    · exact absurd c_4 (by decide)
  · exact absurd c_2 (by decide)

set_option maxHeartbeats 4000000 in
set_option maxRecDepth 100000 in
theorem c_M_pin_c (l : Launch) (dC : Nat → ClassId) (dI : Nat → Nat → Nat) (ka : Nat → ClassId) (sz : Nat) (h : Nat) (ad : Nat → Nat) (mth mnw : Int32) (mcp mcb mcv mcl mbl mpl mfm mto mfs mls mpg mpn mus mdi mst mbs : Nat → Int32) (men mfl mrd mwn mlf : Int32) (q : Nat) (x : Int32) (n : Nat) (f0 : Nat) (u1 : Nat → Int32) (ex : x = nI n) (hn : n < 192) (hfo : foM mpg x 12 = -1) (hap : apM mpg mpn 12 = 0) (hnt : mfs n = mls n) (hall : ∀ i, i < 12 → ¬ mpg i < 0) (hq0 : q < 12) (hf0 : f0 < 12) (hus0 : ∀ i, i < 12 → ¬ mus i < 0) (hHB : hbU mpn 48 (mus, q) = (u1, f0)) (htk : mpn f0 = 0 ∧ u1 f0 = 0) (hd0 : mdi f0 = 0) : Met l yM_pin wM_pin ({ frames := 1, cells := 0, slots := 0, locals := 23 }) (va_Pc [.ref h, .int x] (fun U => U.heap.size = sz ∧ tk_E dC dI ka U ∧ va_P (dC, dI) clB (mw h ad ka mth mnw mcp mcb mcv mcl mbl mpl mfm mto mfs mls mpg mpn mus mdi mst mbs (nI q) men mfl mrd mwn mlf) U.heap ∧ va_D (fun _ => True) (mw h ad ka mth mnw mcp mcb mcv mcl mbl mpl mfm mto mfs mls mpg mpn mus mdi mst mbs (nI q) men mfl mrd mwn mlf))) (va_Qi (fun (r : Int32) (_ : Unit) => r = nI f0) (fun _ t => va_P (dC, dI) clB (mw h ad ka 0 mnw mcp mcb mcv mcl mbl mpl mfm mto mfs mls (upd mpg f0 x) (upd mpn f0 1) (upd u1 f0 1) (upd mdi f0 0) (upd mst f0 (mfs n)) (upd mbs f0 (mfm (8 * n))) (nI (nxt f0)) men mfl (mrd + 1) mwn mlf) t.heap) (va_A (mw h ad ka mth mnw mcp mcb mcv mcl mbl mpl mfm mto mfs mls mpg mpn mus mdi mst mbs (nI q) men mfl mrd mwn mlf) sz)) 0 0 (va_A (mw h ad ka mth mnw mcp mcb mcv mcl mbl mpl mfm mto mfs mls mpg mpn mus mdi mst mbs (nI q) men mfl mrd mwn mlf) sz) := by
  refine Met.ofW (cc := cM_pin) (maxL := 3) (ret := (some .int)) (by decide) rfl ?_
  intro p e s m args below meth c s₁ B hml hv
  obtain ⟨rfl, hsz, hE, hP, hD0⟩ := hv
  have hx := B.exec
  have hb := B.bytes
  have hr := B.returns
  have hts := atoms_spec (ws := wM_pin) B.pre
  have hq : ∀ w ∈ lwg, w.before _ s = true := fun w h => hts w (List.mem_cons_of_mem _ h)
  have hown : s.vm.findClass RM = some m.cls := findClass_of_methodNamed B.named
  have hlocks := B.notSynchronized
  have hK := hE.1
  have hN := hE.2
  subst hsz
  have hD := hD0.self (sz := s.heap.size)
  generalize hAe : va_A (mw h ad ka mth mnw mcp mcb mcv mcl mbl mpl mfm mto mfs mls mpg mpn mus mdi mst mbs (nI q) men mfl mrd mwn mlf) s.heap.size = A at hD ⊢
  have hA : ∀ q : Nat, s.heap.size ≤ q → A q := fun q h => by rw [← hAe]; exact Or.inr h
  have hS : va_S A s.heap s.heap [] := va_S.rf
  have hDw := hD
  have hP : va_P (dC, dI) clB (mw h ad ka mth mnw mcp mcb mcv mcl mbl mpl mfm mto mfs mls mpg mpn mus mdi mst mbs (nI q) men mfl mrd mwn mlf) s.heap := hP
  have hl := lv_entry ([.ref h, .int x]) (n := 3) (Nat.le_of_ble_eq_true rfl)
  rw [lg_entry_eq]
  generalize (lg_sl ([.ref h, .int x]) ++ List.replicate (3 - (lg_sl ([.ref h, .int x])).length) Slot.unset).toArray = ls at hl ⊢
  have hl : lv_has ls 3 [(0, .ref h), (1, .int x)] := hl
  refine lv_aload_n hx hb dM_pin_0 rfl (lv_at hl 0 rfl) ?_
  refine lv_iconst (v := 0) hx hb dM_pin_1 (by decide) ?_
  refine va_put (D := (dC, dI)) (ci := 4) (v := .int 0) (ty := .int) (C := RM) (T := TM) (N := 24) hx hb hts (inC inM) tyM tyM_ok nmM hown hK hP hD hS 0 rfl rfl 0 (by decide) (hq _ wi_466) (fun _ h9 => h9) rfl (by decide +kernel) rfl rfl (Nat.le_of_ble_eq_true rfl) dM_pin_2 (fun H locs hP hD hS => ?_)
  have hP : va_P (dC, dI) clB (mw h ad ka 0 mnw mcp mcb mcv mcl mbl mpl mfm mto mfs mls mpg mpn mus mdi mst mbs (nI q) men mfl mrd mwn mlf) H := hP
  have hD : va_D A (mw h ad ka 0 mnw mcp mcb mcv mcl mbl mpl mfm mto mfs mls mpg mpn mus mdi mst mbs (nI q) men mfl mrd mwn mlf) := mw_D hDw
  refine lv_iload_n hx hb dM_pin_5 rfl (lv_at hl 1 rfl) ?_
  refine vp_callSi (va_Run.run (va_runS (As := [.int x]) (rest := []) ⟨hx, hb, hml, hown, hts⟩ (c_M_isPage l dC dI ka x) (cwS 1 hts (tw_S wi_569 wi_570 wi_28 wi_571) rfl rfl rfl (by decide +kernel) ⟨Nat.le_of_ble_eq_true rfl, Nat.le_of_ble_eq_true rfl⟩) ⟨fun a U g mk q => ⟨q.1, tk_E.call q.2.1, q.2.2⟩, fun U hU hW => ⟨rfl, tk_E.warm hW hE, by rw [hU]; exact (fun _ _ h => nomatch h)⟩⟩ rfl rfl hl.1 rfl (lv_room (Nat.le_of_ble_eq_true rfl)) dM_pin_6 ⟨Nat.zero_le _, Nat.zero_le _⟩)) (fun r_1 er_1 => ?_)
  replace er_1 := er_1.trans (tk_is1 (N := 192) ex hn (by decide))
  subst er_1
  refine lv_if_ne (tgt := 18) hx hb dM_pin_9 (by decide) (fun c_2 => ?_) (fun c_2 => ?_)
  · refine lv_aload_n hx hb dM_pin_18 rfl (lv_at hl 0 rfl) ?_
    refine lv_iload_n hx hb dM_pin_19 rfl (lv_at hl 1 rfl) ?_
    refine vp_callSi (va_Run.run (va_runV (As := [.int x]) (rest := []) ⟨hx, hb, hml, hown, hts⟩ (c_M_frameOf l dC dI ka h ad 0 mnw mcp mcb mcv mcl mbl mpl mfm mto mfs mls mpg mpn mus mdi mst mbs (nI q) men mfl mrd mwn mlf x ) (cwV 1 hts (tw_V wi_588 wi_590 wi_16 wi_28 wi_591) rfl rfl rfl (by decide +kernel) ⟨Nat.le_of_ble_eq_true rfl, Nat.le_of_ble_eq_true rfl⟩) ⟨fun a U g mk q => ⟨q.1, tk_E.call q.2.1, q.2.2⟩, va_recv hK hP (ci := 4) (q0 := 0) rfl rfl, fun U hU hW => ⟨rfl, tk_E.warm hW hE, by rw [hU]; exact hP⟩⟩ rfl rfl hl.1 rfl (lv_room (Nat.le_of_ble_eq_true rfl)) dM_pin_20 ⟨Nat.zero_le _, Nat.zero_le _⟩)) (fun r_3 er_3 => ?_)
    replace er_3 := er_3.trans (hfo)
    subst er_3
    refine lv_istore_n (lv' := [(2, .int (-1)), (0, .ref h), (1, .int x)]) hx hb dM_pin_23 rfl hl (by decide) rfl (fun ls hl => ?_)
    refine lv_iload_n hx hb dM_pin_24 rfl (lv_at hl 0 rfl) ?_
    refine lv_if_lt (tgt := 68) hx hb dM_pin_25 (by decide) (fun c_4 => ?_) (fun c_4 => ?_)
    · refine lv_aload_n hx hb dM_pin_68 rfl (lv_at hl 1 rfl) ?_
      refine vp_callSi (va_Run.run (va_runV (As := []) (rest := []) ⟨hx, hb, hml, hown, hts⟩ (c_M_allPinned l dC dI ka h ad 0 mnw mcp mcb mcv mcl mbl mpl mfm mto mfs mls mpg mpn mus mdi mst mbs (nI q) men mfl mrd mwn mlf ) (cwV 0 hts (tw_V wi_592 wi_594 wi_17 wi_28 wi_595) rfl rfl rfl (by decide +kernel) ⟨Nat.le_of_ble_eq_true rfl, Nat.le_of_ble_eq_true rfl⟩) ⟨fun a U g mk q => ⟨q.1, tk_E.call q.2.1, q.2.2⟩, va_recv hK hP (ci := 4) (q0 := 0) rfl rfl, fun U hU hW => ⟨rfl, tk_E.warm hW hE, by rw [hU]; exact hP⟩⟩ rfl rfl hl.1 rfl (lv_room (Nat.le_of_ble_eq_true rfl)) dM_pin_69 ⟨Nat.zero_le _, Nat.zero_le _⟩)) (fun r_5 er_5 => ?_)
      replace er_5 := er_5.trans (hap)
      subst er_5
      refine lv_if_ne (tgt := 83) hx hb dM_pin_72 (by decide) (fun c_6 => ?_) (fun c_6 => ?_)
      · exact absurd c_6 (by decide)
      · refine lv_aload_n hx hb dM_pin_75 rfl (lv_at hl 1 rfl) ?_
        refine lv_iload_n hx hb dM_pin_76 rfl (lv_at hl 2 rfl) ?_
        refine vp_callSi (va_Run.run (va_runV (As := [.int x]) (rest := []) ⟨hx, hb, hml, hown, hts⟩ (c_M_isTorn l dC dI ka h ad 0 mnw mcp mcb mcv mcl mbl mpl mfm mto mfs mls mpg mpn mus mdi mst mbs (nI q) men mfl mrd mwn mlf x n ex hn) (cwV 1 hts (tw_V wi_576 wi_578 wi_14 wi_28 wi_579) rfl rfl rfl (by decide +kernel) ⟨Nat.le_of_ble_eq_true rfl, Nat.le_of_ble_eq_true rfl⟩) ⟨fun a U g mk q => ⟨q.1, tk_E.call q.2.1, q.2.2⟩, va_recv hK hP (ci := 4) (q0 := 0) rfl rfl, fun U hU hW => ⟨rfl, tk_E.warm hW hE, by rw [hU]; exact hP⟩⟩ rfl rfl hl.1 rfl (lv_room (Nat.le_of_ble_eq_true rfl)) dM_pin_77 ⟨Nat.zero_le _, Nat.zero_le _⟩)) (fun r_7 er_7 => ?_)
        replace er_7 := er_7.trans (if_pos hnt)
        subst er_7
        refine lv_if_eq (tgt := 100) hx hb dM_pin_80 (by decide) (fun c_8 => ?_) (fun c_8 => ?_)
        · refine lv_aload_n hx hb dM_pin_100 rfl (lv_at hl 1 rfl) ?_
          have hFc := tk_freeW hD hS hA
          refine va_calli (va_runV (As := []) (rest := []) ⟨hx, hb, hml, hown, hts⟩ (c_M_found_c l dC dI ka _ h ad 0 mnw mcp mcb mcv mcl mbl mpl mfm mto mfs mls mpg mpn mus mdi mst mbs men mfl mrd mwn mlf q f0 u1 hall hq0 hf0 hus0 hHB htk hd0) (cwV 0 hts (tw_V wi_596 wi_598 wi_18 wi_28 wi_599) rfl rfl rfl (by decide +kernel) ⟨Nat.le_of_ble_eq_true rfl, Nat.le_of_ble_eq_true rfl⟩) ⟨fun a U g mk q => ⟨q.1, q.2.1, tk_E.call q.2.2.1, q.2.2.2⟩, va_recv hK hP (ci := 4) (q0 := 0) rfl rfl, fun U hU hW => ⟨rfl, by rw [hU], tk_E.warm hW hE, by rw [hU]; exact hP, hD.weaken (fun _ _ _ _ => trivial)⟩⟩ rfl rfl hl.1 rfl (lv_room (Nat.le_of_ble_eq_true rfl)) dM_pin_101 ⟨Nat.zero_le _, Nat.zero_le _⟩) hS (fun q _ h => hFc q h) hFc (fun r_10 u_9 t H1 locs ht hvm hw hB hz1 hk1 hS => ?_)
          have hB : va_P (dC, dI) clB (mw h ad ka 0 mnw mcp mcb mcv mcl mbl mpl mfm mto mfs mls mpg mpn u1 mdi mst mbs (nI (nxt f0)) men mfl mrd mwn mlf) H1 := by rw [← ht]; exact hB
          obtain ⟨hP, hD⟩ := (⟨hB, mw_D hDw⟩ : va_P (dC, dI) clB (mw h ad ka 0 mnw mcp mcb mcv mcl mbl mpl mfm mto mfs mls mpg mpn u1 mdi mst mbs (nI (nxt f0)) men mfl mrd mwn mlf) H1 ∧ va_D A (mw h ad ka 0 mnw mcp mcb mcv mcl mbl mpl mfm mto mfs mls mpg mpn u1 mdi mst mbs (nI (nxt f0)) men mfl mrd mwn mlf))
          generalize H1 = H at hP hS ⊢
          have hP : va_P (dC, dI) clB (mw h ad ka 0 mnw mcp mcb mcv mcl mbl mpl mfm mto mfs mls mpg mpn u1 mdi mst mbs (nI (nxt f0)) men mfl mrd mwn mlf) H := hP
          have hD : va_D A (mw h ad ka 0 mnw mcp mcb mcv mcl mbl mpl mfm mto mfs mls mpg mpn u1 mdi mst mbs (nI (nxt f0)) men mfl mrd mwn mlf) := mw_D hDw
          subst hw
          refine lv_istore_n (lv' := [(2, .int (nI f0)), (0, .ref h), (1, .int x)]) hx hb dM_pin_104 rfl hl (by decide) rfl (fun ls hl => ?_)
          refine lv_iload_n hx hb dM_pin_105 rfl (lv_at hl 0 rfl) ?_
          refine lv_if_ge (tgt := 115) hx hb dM_pin_106 (by decide) (fun c_11 => ?_) (fun c_11 => ?_)
          · refine lv_aload_n hx hb dM_pin_115 rfl (lv_at hl 1 rfl) ?_
            refine lv_dup hx hb dM_pin_116 rfl ?_
            refine va_get (D := (dC, dI)) (ci := 4) (v := .int mrd) (C := RM) (T := TM) (N := 24) hx hb hts (inC inM) hown hK hP 0 rfl rfl 21 (by decide) (hq _ wi_487) (fun _ h9 => h9) rfl dM_pin_117 ?_
            refine lv_iconst (v := 1) hx hb dM_pin_120 (by decide) ?_
            refine lv_iadd hx hb dM_pin_121 ?_
            refine va_put (D := (dC, dI)) (ci := 4) (v := .int (mrd + 1)) (ty := .int) (C := RM) (T := TM) (N := 24) hx hb hts (inC inM) tyM tyM_ok nmM hown hK hP hD hS 0 rfl rfl 21 (by decide) (hq _ wi_487) (fun _ h9 => h9) rfl (by decide +kernel) rfl rfl (Nat.le_of_ble_eq_true rfl) dM_pin_122 (fun H locs hP hD hS => ?_)
            have hP : va_P (dC, dI) clB (mw h ad ka 0 mnw mcp mcb mcv mcl mbl mpl mfm mto mfs mls mpg mpn u1 mdi mst mbs (nI (nxt f0)) men mfl (mrd + 1) mwn mlf) H := hP
            have hD : va_D A (mw h ad ka 0 mnw mcp mcb mcv mcl mbl mpl mfm mto mfs mls mpg mpn u1 mdi mst mbs (nI (nxt f0)) men mfl (mrd + 1) mwn mlf) := mw_D hDw
            refine lv_aload_n hx hb dM_pin_125 rfl (lv_at hl 1 rfl) ?_
            refine lv_iload_n hx hb dM_pin_126 rfl (lv_at hl 0 rfl) ?_
            refine lv_iload_n hx hb dM_pin_127 rfl (lv_at hl 2 rfl) ?_
            refine lv_aload_n hx hb dM_pin_128 rfl (lv_at hl 1 rfl) ?_
            refine va_get (D := (dC, dI)) (ci := 4) (v := .ref (ad 6)) (C := RM) (T := TM) (N := 24) hx hb hts (inC inM) hown hK hP 0 rfl rfl 8 (by decide) (hq _ wi_474) (fun _ h9 => h9) rfl dM_pin_129 ?_
            refine lv_bipush (v := 8) hx hb dM_pin_132 (by decide) ?_
            refine lv_iload_n hx hb dM_pin_134 rfl (lv_at hl 2 rfl) ?_
            refine lv_imul hx hb dM_pin_135 ?_
            refine tk_sald (n := (8 * n)) hx hb hK hP 7 2 rfl rfl (by rw [ex]; exact sec_i0) (by omega) (by decide) dM_pin_136 ?_
            have hFc := tk_freeW hD hS hA
            refine va_callv (va_runV (As := [.int (nI f0), .int x, .int (mfm (8 * n))]) (rest := []) ⟨hx, hb, hml, hown, hts⟩ (c_M_fill l dC dI ka _ h ad 0 mnw mcp mcb mcv mcl mbl mpl mfm mto mfs mls mpg mpn u1 mdi mst mbs (nI (nxt f0)) men mfl (mrd + 1) mwn mlf (nI f0) x (mfm (8 * n)) f0 n rfl hf0 ex hn) (cwV 3 hts (tw_V wi_609 wi_611 wi_21 wi_28 wi_612) rfl rfl rfl (by decide +kernel) ⟨Nat.le_of_ble_eq_true rfl, Nat.le_of_ble_eq_true rfl⟩) ⟨fun a U g mk q => ⟨q.1, q.2.1, tk_E.call q.2.2.1, q.2.2.2⟩, va_recv hK hP (ci := 4) (q0 := 0) rfl rfl, fun U hU hW => ⟨rfl, by rw [hU], tk_E.warm hW hE, by rw [hU]; exact hP, hD.weaken (fun _ _ _ _ => trivial)⟩⟩ rfl rfl hl.1 rfl (lv_room (Nat.le_of_ble_eq_true rfl)) dM_pin_137 ⟨Nat.zero_le _, Nat.zero_le _⟩) hS (fun q _ h => hFc q h) hFc (fun u_12 t H1 locs ht hvm hw hB hz1 hk1 hS => ?_)
            have hB : va_P (dC, dI) clB (mw h ad ka 0 mnw mcp mcb mcv mcl mbl mpl mfm mto mfs mls (upd mpg f0 x) (upd mpn f0 1) (upd u1 f0 1) (upd mdi f0 0) (upd mst f0 (mfs n)) (upd mbs f0 (mfm (8 * n))) (nI (nxt f0)) men mfl (mrd + 1) mwn mlf) H1 := by rw [← ht]; exact hB
            obtain ⟨hP, hD⟩ := (⟨hB, mw_D hDw⟩ : va_P (dC, dI) clB (mw h ad ka 0 mnw mcp mcb mcv mcl mbl mpl mfm mto mfs mls (upd mpg f0 x) (upd mpn f0 1) (upd u1 f0 1) (upd mdi f0 0) (upd mst f0 (mfs n)) (upd mbs f0 (mfm (8 * n))) (nI (nxt f0)) men mfl (mrd + 1) mwn mlf) H1 ∧ va_D A (mw h ad ka 0 mnw mcp mcb mcv mcl mbl mpl mfm mto mfs mls (upd mpg f0 x) (upd mpn f0 1) (upd u1 f0 1) (upd mdi f0 0) (upd mst f0 (mfs n)) (upd mbs f0 (mfm (8 * n))) (nI (nxt f0)) men mfl (mrd + 1) mwn mlf))
            generalize H1 = H at hP hS ⊢
            have hP : va_P (dC, dI) clB (mw h ad ka 0 mnw mcp mcb mcv mcl mbl mpl mfm mto mfs mls (upd mpg f0 x) (upd mpn f0 1) (upd u1 f0 1) (upd mdi f0 0) (upd mst f0 (mfs n)) (upd mbs f0 (mfm (8 * n))) (nI (nxt f0)) men mfl (mrd + 1) mwn mlf) H := hP
            have hD : va_D A (mw h ad ka 0 mnw mcp mcb mcv mcl mbl mpl mfm mto mfs mls (upd mpg f0 x) (upd mpn f0 1) (upd u1 f0 1) (upd mdi f0 0) (upd mst f0 (mfs n)) (upd mbs f0 (mfm (8 * n))) (nI (nxt f0)) men mfl (mrd + 1) mwn mlf) := mw_D hDw
            refine lv_iload_n hx hb dM_pin_140 rfl (lv_at hl 0 rfl) ?_
            exact W.iret (v := (nI f0)) hx hb hr (fun t ht hW => ⟨⟨(nI f0), (), rfl, rfl, by show va_P _ _ _ t.heap; rw [ht]; exact hP⟩, hS.F ht⟩) hS.2.2 dM_pin_141
          · exact absurd (nI_pos' (n := f0) (by omega)) c_11
        · exact absurd c_8 (by decide)
    · exact absurd c_4 (by decide)
  · exact absurd c_2 (by decide)

set_option maxHeartbeats 4000000 in
set_option maxRecDepth 100000 in
theorem c_M_pin_d (l : Launch) (dC : Nat → ClassId) (dI : Nat → Nat → Nat) (ka : Nat → ClassId) (sz : Nat) (h : Nat) (ad : Nat → Nat) (mth mnw : Int32) (mcp mcb mcv mcl mbl mpl mfm mto mfs mls mpg mpn mus mdi mst mbs : Nat → Int32) (men mfl mrd mwn mlf : Int32) (q : Nat) (x : Int32) (n : Nat) (f0 np b u : Nat) (u1 : Nat → Int32) (ex : x = nI n) (hn : n < 192) (hfo : foM mpg x 12 = -1) (hap : apM mpg mpn 12 = 0) (hnt : mfs n = mls n) (hall : ∀ i, i < 12 → ¬ mpg i < 0) (hq0 : q < 12) (hf0 : f0 < 12) (hus0 : ∀ i, i < 12 → ¬ mus i < 0) (hHB : hbU mpn 48 (mus, q) = (u1, f0)) (htk : mpn f0 = 0 ∧ u1 f0 = 0) (hd0 : ¬ mdi f0 = 0) (hpg : mpg f0 = nI np) (hnp : np < 192) (eb : mbs f0 = nI b) (eu : mnw = nI u) (hbu : b ≤ u) (hu : u < 520) (hok : ∀ z, z < 8 → ¬ mlA mlf z = 0) : Met l yM_pin wM_pin ({ frames := 4, cells := 0, slots := 0, locals := 92 }) (va_Pc [.ref h, .int x] (fun U => U.heap.size = sz ∧ tk_E dC dI ka U ∧ va_P (dC, dI) clB (mw h ad ka mth mnw mcp mcb mcv mcl mbl mpl mfm mto mfs mls mpg mpn mus mdi mst mbs (nI q) men mfl mrd mwn mlf) U.heap ∧ va_D (fun _ => True) (mw h ad ka mth mnw mcp mcb mcv mcl mbl mpl mfm mto mfs mls mpg mpn mus mdi mst mbs (nI q) men mfl mrd mwn mlf))) (va_Qi (fun (r : Int32) (_ : Unit) => r = nI f0) (fun _ t => va_P (dC, dI) clB (mw h ad ka 0 mnw mcp mcb mcv mcl mbl mpl (secF mfm np (nI b) 8) (secF mto np (nI u) 8) (fsF mfs np (rs1 (mst f0)) 8) (lsF mls np (rs1 (mst f0)) 8) (upd mpg f0 x) (upd mpn f0 1) (upd u1 f0 1) (upd (upd mdi f0 0) f0 0) (upd (upd mst f0 (rs1 (mst f0))) f0 ((fsF mfs np (rs1 (mst f0)) 8) n)) (upd mbs f0 ((secF mfm np (nI b) 8) (8 * n))) (nI (nxt f0)) (if (plcF mcp mcl mpl (mpg f0) b (u - b)) ≤ men then men else (plcF mcp mcl mpl (mpg f0) b (u - b))) (if (plcF mcp mcl mpl (mpg f0) b (u - b)) ≤ men then mfl else mfl + 1) (mrd + 1) (mwn + nI 8) (mlA mlf 8)) t.heap) (va_A (mw h ad ka mth mnw mcp mcb mcv mcl mbl mpl mfm mto mfs mls mpg mpn mus mdi mst mbs (nI q) men mfl mrd mwn mlf) sz)) 0 0 (va_A (mw h ad ka mth mnw mcp mcb mcv mcl mbl mpl mfm mto mfs mls mpg mpn mus mdi mst mbs (nI q) men mfl mrd mwn mlf) sz) := by
  refine Met.ofW (cc := cM_pin) (maxL := 3) (ret := (some .int)) (by decide) rfl ?_
  intro p e s m args below meth c s₁ B hml hv
  obtain ⟨rfl, hsz, hE, hP, hD0⟩ := hv
  have hx := B.exec
  have hb := B.bytes
  have hr := B.returns
  have hts := atoms_spec (ws := wM_pin) B.pre
  have hq : ∀ w ∈ lwg, w.before _ s = true := fun w h => hts w (List.mem_cons_of_mem _ h)
  have hown : s.vm.findClass RM = some m.cls := findClass_of_methodNamed B.named
  have hlocks := B.notSynchronized
  have hK := hE.1
  have hN := hE.2
  subst hsz
  have hD := hD0.self (sz := s.heap.size)
  generalize hAe : va_A (mw h ad ka mth mnw mcp mcb mcv mcl mbl mpl mfm mto mfs mls mpg mpn mus mdi mst mbs (nI q) men mfl mrd mwn mlf) s.heap.size = A at hD ⊢
  have hA : ∀ q : Nat, s.heap.size ≤ q → A q := fun q h => by rw [← hAe]; exact Or.inr h
  have hS : va_S A s.heap s.heap [] := va_S.rf
  have hDw := hD
  have hP : va_P (dC, dI) clB (mw h ad ka mth mnw mcp mcb mcv mcl mbl mpl mfm mto mfs mls mpg mpn mus mdi mst mbs (nI q) men mfl mrd mwn mlf) s.heap := hP
  have hl := lv_entry ([.ref h, .int x]) (n := 3) (Nat.le_of_ble_eq_true rfl)
  rw [lg_entry_eq]
  generalize (lg_sl ([.ref h, .int x]) ++ List.replicate (3 - (lg_sl ([.ref h, .int x])).length) Slot.unset).toArray = ls at hl ⊢
  have hl : lv_has ls 3 [(0, .ref h), (1, .int x)] := hl
  refine lv_aload_n hx hb dM_pin_0 rfl (lv_at hl 0 rfl) ?_
  refine lv_iconst (v := 0) hx hb dM_pin_1 (by decide) ?_
  refine va_put (D := (dC, dI)) (ci := 4) (v := .int 0) (ty := .int) (C := RM) (T := TM) (N := 24) hx hb hts (inC inM) tyM tyM_ok nmM hown hK hP hD hS 0 rfl rfl 0 (by decide) (hq _ wi_466) (fun _ h9 => h9) rfl (by decide +kernel) rfl rfl (Nat.le_of_ble_eq_true rfl) dM_pin_2 (fun H locs hP hD hS => ?_)
  have hP : va_P (dC, dI) clB (mw h ad ka 0 mnw mcp mcb mcv mcl mbl mpl mfm mto mfs mls mpg mpn mus mdi mst mbs (nI q) men mfl mrd mwn mlf) H := hP
  have hD : va_D A (mw h ad ka 0 mnw mcp mcb mcv mcl mbl mpl mfm mto mfs mls mpg mpn mus mdi mst mbs (nI q) men mfl mrd mwn mlf) := mw_D hDw
  refine lv_iload_n hx hb dM_pin_5 rfl (lv_at hl 1 rfl) ?_
  refine vp_callSi (va_Run.run (va_runS (As := [.int x]) (rest := []) ⟨hx, hb, hml, hown, hts⟩ (c_M_isPage l dC dI ka x) (cwS 1 hts (tw_S wi_569 wi_570 wi_28 wi_571) rfl rfl rfl (by decide +kernel) ⟨Nat.le_of_ble_eq_true rfl, Nat.le_of_ble_eq_true rfl⟩) ⟨fun a U g mk q => ⟨q.1, tk_E.call q.2.1, q.2.2⟩, fun U hU hW => ⟨rfl, tk_E.warm hW hE, by rw [hU]; exact (fun _ _ h => nomatch h)⟩⟩ rfl rfl hl.1 rfl (lv_room (Nat.le_of_ble_eq_true rfl)) dM_pin_6 ⟨Nat.zero_le _, Nat.zero_le _⟩)) (fun r_1 er_1 => ?_)
  replace er_1 := er_1.trans (tk_is1 (N := 192) ex hn (by decide))
  subst er_1
  refine lv_if_ne (tgt := 18) hx hb dM_pin_9 (by decide) (fun c_2 => ?_) (fun c_2 => ?_)
  · refine lv_aload_n hx hb dM_pin_18 rfl (lv_at hl 0 rfl) ?_
    refine lv_iload_n hx hb dM_pin_19 rfl (lv_at hl 1 rfl) ?_
    refine vp_callSi (va_Run.run (va_runV (As := [.int x]) (rest := []) ⟨hx, hb, hml, hown, hts⟩ (c_M_frameOf l dC dI ka h ad 0 mnw mcp mcb mcv mcl mbl mpl mfm mto mfs mls mpg mpn mus mdi mst mbs (nI q) men mfl mrd mwn mlf x ) (cwV 1 hts (tw_V wi_588 wi_590 wi_16 wi_28 wi_591) rfl rfl rfl (by decide +kernel) ⟨Nat.le_of_ble_eq_true rfl, Nat.le_of_ble_eq_true rfl⟩) ⟨fun a U g mk q => ⟨q.1, tk_E.call q.2.1, q.2.2⟩, va_recv hK hP (ci := 4) (q0 := 0) rfl rfl, fun U hU hW => ⟨rfl, tk_E.warm hW hE, by rw [hU]; exact hP⟩⟩ rfl rfl hl.1 rfl (lv_room (Nat.le_of_ble_eq_true rfl)) dM_pin_20 ⟨Nat.zero_le _, Nat.zero_le _⟩)) (fun r_3 er_3 => ?_)
    replace er_3 := er_3.trans (hfo)
    subst er_3
    refine lv_istore_n (lv' := [(2, .int (-1)), (0, .ref h), (1, .int x)]) hx hb dM_pin_23 rfl hl (by decide) rfl (fun ls hl => ?_)
    refine lv_iload_n hx hb dM_pin_24 rfl (lv_at hl 0 rfl) ?_
    refine lv_if_lt (tgt := 68) hx hb dM_pin_25 (by decide) (fun c_4 => ?_) (fun c_4 => ?_)
    · refine lv_aload_n hx hb dM_pin_68 rfl (lv_at hl 1 rfl) ?_
      refine vp_callSi (va_Run.run (va_runV (As := []) (rest := []) ⟨hx, hb, hml, hown, hts⟩ (c_M_allPinned l dC dI ka h ad 0 mnw mcp mcb mcv mcl mbl mpl mfm mto mfs mls mpg mpn mus mdi mst mbs (nI q) men mfl mrd mwn mlf ) (cwV 0 hts (tw_V wi_592 wi_594 wi_17 wi_28 wi_595) rfl rfl rfl (by decide +kernel) ⟨Nat.le_of_ble_eq_true rfl, Nat.le_of_ble_eq_true rfl⟩) ⟨fun a U g mk q => ⟨q.1, tk_E.call q.2.1, q.2.2⟩, va_recv hK hP (ci := 4) (q0 := 0) rfl rfl, fun U hU hW => ⟨rfl, tk_E.warm hW hE, by rw [hU]; exact hP⟩⟩ rfl rfl hl.1 rfl (lv_room (Nat.le_of_ble_eq_true rfl)) dM_pin_69 ⟨Nat.zero_le _, Nat.zero_le _⟩)) (fun r_5 er_5 => ?_)
      replace er_5 := er_5.trans (hap)
      subst er_5
      refine lv_if_ne (tgt := 83) hx hb dM_pin_72 (by decide) (fun c_6 => ?_) (fun c_6 => ?_)
      · exact absurd c_6 (by decide)
      · refine lv_aload_n hx hb dM_pin_75 rfl (lv_at hl 1 rfl) ?_
        refine lv_iload_n hx hb dM_pin_76 rfl (lv_at hl 2 rfl) ?_
        refine vp_callSi (va_Run.run (va_runV (As := [.int x]) (rest := []) ⟨hx, hb, hml, hown, hts⟩ (c_M_isTorn l dC dI ka h ad 0 mnw mcp mcb mcv mcl mbl mpl mfm mto mfs mls mpg mpn mus mdi mst mbs (nI q) men mfl mrd mwn mlf x n ex hn) (cwV 1 hts (tw_V wi_576 wi_578 wi_14 wi_28 wi_579) rfl rfl rfl (by decide +kernel) ⟨Nat.le_of_ble_eq_true rfl, Nat.le_of_ble_eq_true rfl⟩) ⟨fun a U g mk q => ⟨q.1, tk_E.call q.2.1, q.2.2⟩, va_recv hK hP (ci := 4) (q0 := 0) rfl rfl, fun U hU hW => ⟨rfl, tk_E.warm hW hE, by rw [hU]; exact hP⟩⟩ rfl rfl hl.1 rfl (lv_room (Nat.le_of_ble_eq_true rfl)) dM_pin_77 ⟨Nat.zero_le _, Nat.zero_le _⟩)) (fun r_7 er_7 => ?_)
        replace er_7 := er_7.trans (if_pos hnt)
        subst er_7
        refine lv_if_eq (tgt := 100) hx hb dM_pin_80 (by decide) (fun c_8 => ?_) (fun c_8 => ?_)
        · refine lv_aload_n hx hb dM_pin_100 rfl (lv_at hl 1 rfl) ?_
          have hFc := tk_freeW hD hS hA
          refine va_calli (va_runV (As := []) (rest := []) ⟨hx, hb, hml, hown, hts⟩ (c_M_found_d l dC dI ka _ h ad 0 mnw mcp mcb mcv mcl mbl mpl mfm mto mfs mls mpg mpn mus mdi mst mbs men mfl mrd mwn mlf q f0 np b u u1 hall hq0 hf0 hus0 hHB htk hd0 hpg hnp eb eu hbu hu hok) (cwV 0 hts (tw_V wi_596 wi_598 wi_18 wi_28 wi_599) rfl rfl rfl (by decide +kernel) ⟨Nat.le_of_ble_eq_true rfl, Nat.le_of_ble_eq_true rfl⟩) ⟨fun a U g mk q => ⟨q.1, q.2.1, tk_E.call q.2.2.1, q.2.2.2⟩, va_recv hK hP (ci := 4) (q0 := 0) rfl rfl, fun U hU hW => ⟨rfl, by rw [hU], tk_E.warm hW hE, by rw [hU]; exact hP, hD.weaken (fun _ _ _ _ => trivial)⟩⟩ rfl rfl hl.1 rfl (lv_room (Nat.le_of_ble_eq_true rfl)) dM_pin_101 ⟨Nat.zero_le _, Nat.zero_le _⟩) hS (fun q _ h => hFc q h) hFc (fun r_10 u_9 t H1 locs ht hvm hw hB hz1 hk1 hS => ?_)
          have hB : va_P (dC, dI) clB (mw h ad ka 0 mnw mcp mcb mcv mcl mbl mpl (secF mfm np (nI b) 8) (secF mto np (nI u) 8) (fsF mfs np (rs1 (mst f0)) 8) (lsF mls np (rs1 (mst f0)) 8) mpg mpn u1 (upd mdi f0 0) (upd mst f0 (rs1 (mst f0))) mbs (nI (nxt f0)) (if (plcF mcp mcl mpl (mpg f0) b (u - b)) ≤ men then men else (plcF mcp mcl mpl (mpg f0) b (u - b))) (if (plcF mcp mcl mpl (mpg f0) b (u - b)) ≤ men then mfl else mfl + 1) mrd (mwn + nI 8) (mlA mlf 8)) H1 := by rw [← ht]; exact hB
          obtain ⟨hP, hD⟩ := (⟨hB, mw_D hDw⟩ : va_P (dC, dI) clB (mw h ad ka 0 mnw mcp mcb mcv mcl mbl mpl (secF mfm np (nI b) 8) (secF mto np (nI u) 8) (fsF mfs np (rs1 (mst f0)) 8) (lsF mls np (rs1 (mst f0)) 8) mpg mpn u1 (upd mdi f0 0) (upd mst f0 (rs1 (mst f0))) mbs (nI (nxt f0)) (if (plcF mcp mcl mpl (mpg f0) b (u - b)) ≤ men then men else (plcF mcp mcl mpl (mpg f0) b (u - b))) (if (plcF mcp mcl mpl (mpg f0) b (u - b)) ≤ men then mfl else mfl + 1) mrd (mwn + nI 8) (mlA mlf 8)) H1 ∧ va_D A (mw h ad ka 0 mnw mcp mcb mcv mcl mbl mpl (secF mfm np (nI b) 8) (secF mto np (nI u) 8) (fsF mfs np (rs1 (mst f0)) 8) (lsF mls np (rs1 (mst f0)) 8) mpg mpn u1 (upd mdi f0 0) (upd mst f0 (rs1 (mst f0))) mbs (nI (nxt f0)) (if (plcF mcp mcl mpl (mpg f0) b (u - b)) ≤ men then men else (plcF mcp mcl mpl (mpg f0) b (u - b))) (if (plcF mcp mcl mpl (mpg f0) b (u - b)) ≤ men then mfl else mfl + 1) mrd (mwn + nI 8) (mlA mlf 8)))
          generalize H1 = H at hP hS ⊢
          have hP : va_P (dC, dI) clB (mw h ad ka 0 mnw mcp mcb mcv mcl mbl mpl (secF mfm np (nI b) 8) (secF mto np (nI u) 8) (fsF mfs np (rs1 (mst f0)) 8) (lsF mls np (rs1 (mst f0)) 8) mpg mpn u1 (upd mdi f0 0) (upd mst f0 (rs1 (mst f0))) mbs (nI (nxt f0)) (if (plcF mcp mcl mpl (mpg f0) b (u - b)) ≤ men then men else (plcF mcp mcl mpl (mpg f0) b (u - b))) (if (plcF mcp mcl mpl (mpg f0) b (u - b)) ≤ men then mfl else mfl + 1) mrd (mwn + nI 8) (mlA mlf 8)) H := hP
          have hD : va_D A (mw h ad ka 0 mnw mcp mcb mcv mcl mbl mpl (secF mfm np (nI b) 8) (secF mto np (nI u) 8) (fsF mfs np (rs1 (mst f0)) 8) (lsF mls np (rs1 (mst f0)) 8) mpg mpn u1 (upd mdi f0 0) (upd mst f0 (rs1 (mst f0))) mbs (nI (nxt f0)) (if (plcF mcp mcl mpl (mpg f0) b (u - b)) ≤ men then men else (plcF mcp mcl mpl (mpg f0) b (u - b))) (if (plcF mcp mcl mpl (mpg f0) b (u - b)) ≤ men then mfl else mfl + 1) mrd (mwn + nI 8) (mlA mlf 8)) := mw_D hDw
          subst hw
          refine lv_istore_n (lv' := [(2, .int (nI f0)), (0, .ref h), (1, .int x)]) hx hb dM_pin_104 rfl hl (by decide) rfl (fun ls hl => ?_)
          refine lv_iload_n hx hb dM_pin_105 rfl (lv_at hl 0 rfl) ?_
          refine lv_if_ge (tgt := 115) hx hb dM_pin_106 (by decide) (fun c_11 => ?_) (fun c_11 => ?_)
          · refine lv_aload_n hx hb dM_pin_115 rfl (lv_at hl 1 rfl) ?_
            refine lv_dup hx hb dM_pin_116 rfl ?_
            refine va_get (D := (dC, dI)) (ci := 4) (v := .int mrd) (C := RM) (T := TM) (N := 24) hx hb hts (inC inM) hown hK hP 0 rfl rfl 21 (by decide) (hq _ wi_487) (fun _ h9 => h9) rfl dM_pin_117 ?_
            refine lv_iconst (v := 1) hx hb dM_pin_120 (by decide) ?_
            refine lv_iadd hx hb dM_pin_121 ?_
            refine va_put (D := (dC, dI)) (ci := 4) (v := .int (mrd + 1)) (ty := .int) (C := RM) (T := TM) (N := 24) hx hb hts (inC inM) tyM tyM_ok nmM hown hK hP hD hS 0 rfl rfl 21 (by decide) (hq _ wi_487) (fun _ h9 => h9) rfl (by decide +kernel) rfl rfl (Nat.le_of_ble_eq_true rfl) dM_pin_122 (fun H locs hP hD hS => ?_)
            have hP : va_P (dC, dI) clB (mw h ad ka 0 mnw mcp mcb mcv mcl mbl mpl (secF mfm np (nI b) 8) (secF mto np (nI u) 8) (fsF mfs np (rs1 (mst f0)) 8) (lsF mls np (rs1 (mst f0)) 8) mpg mpn u1 (upd mdi f0 0) (upd mst f0 (rs1 (mst f0))) mbs (nI (nxt f0)) (if (plcF mcp mcl mpl (mpg f0) b (u - b)) ≤ men then men else (plcF mcp mcl mpl (mpg f0) b (u - b))) (if (plcF mcp mcl mpl (mpg f0) b (u - b)) ≤ men then mfl else mfl + 1) (mrd + 1) (mwn + nI 8) (mlA mlf 8)) H := hP
            have hD : va_D A (mw h ad ka 0 mnw mcp mcb mcv mcl mbl mpl (secF mfm np (nI b) 8) (secF mto np (nI u) 8) (fsF mfs np (rs1 (mst f0)) 8) (lsF mls np (rs1 (mst f0)) 8) mpg mpn u1 (upd mdi f0 0) (upd mst f0 (rs1 (mst f0))) mbs (nI (nxt f0)) (if (plcF mcp mcl mpl (mpg f0) b (u - b)) ≤ men then men else (plcF mcp mcl mpl (mpg f0) b (u - b))) (if (plcF mcp mcl mpl (mpg f0) b (u - b)) ≤ men then mfl else mfl + 1) (mrd + 1) (mwn + nI 8) (mlA mlf 8)) := mw_D hDw
            refine lv_aload_n hx hb dM_pin_125 rfl (lv_at hl 1 rfl) ?_
            refine lv_iload_n hx hb dM_pin_126 rfl (lv_at hl 0 rfl) ?_
            refine lv_iload_n hx hb dM_pin_127 rfl (lv_at hl 2 rfl) ?_
            refine lv_aload_n hx hb dM_pin_128 rfl (lv_at hl 1 rfl) ?_
            refine va_get (D := (dC, dI)) (ci := 4) (v := .ref (ad 6)) (C := RM) (T := TM) (N := 24) hx hb hts (inC inM) hown hK hP 0 rfl rfl 8 (by decide) (hq _ wi_474) (fun _ h9 => h9) rfl dM_pin_129 ?_
            refine lv_bipush (v := 8) hx hb dM_pin_132 (by decide) ?_
            refine lv_iload_n hx hb dM_pin_134 rfl (lv_at hl 2 rfl) ?_
            refine lv_imul hx hb dM_pin_135 ?_
            refine tk_sald (n := (8 * n)) hx hb hK hP 7 2 rfl rfl (by rw [ex]; exact sec_i0) (by omega) (by decide) dM_pin_136 ?_
            have hFc := tk_freeW hD hS hA
            refine va_callv (va_runV (As := [.int (nI f0), .int x, .int ((secF mfm np (nI b) 8) (8 * n))]) (rest := []) ⟨hx, hb, hml, hown, hts⟩ (c_M_fill l dC dI ka _ h ad 0 mnw mcp mcb mcv mcl mbl mpl (secF mfm np (nI b) 8) (secF mto np (nI u) 8) (fsF mfs np (rs1 (mst f0)) 8) (lsF mls np (rs1 (mst f0)) 8) mpg mpn u1 (upd mdi f0 0) (upd mst f0 (rs1 (mst f0))) mbs (nI (nxt f0)) (if (plcF mcp mcl mpl (mpg f0) b (u - b)) ≤ men then men else (plcF mcp mcl mpl (mpg f0) b (u - b))) (if (plcF mcp mcl mpl (mpg f0) b (u - b)) ≤ men then mfl else mfl + 1) (mrd + 1) (mwn + nI 8) (mlA mlf 8) (nI f0) x ((secF mfm np (nI b) 8) (8 * n)) f0 n rfl hf0 ex hn) (cwV 3 hts (tw_V wi_609 wi_611 wi_21 wi_28 wi_612) rfl rfl rfl (by decide +kernel) ⟨Nat.le_of_ble_eq_true rfl, Nat.le_of_ble_eq_true rfl⟩) ⟨fun a U g mk q => ⟨q.1, q.2.1, tk_E.call q.2.2.1, q.2.2.2⟩, va_recv hK hP (ci := 4) (q0 := 0) rfl rfl, fun U hU hW => ⟨rfl, by rw [hU], tk_E.warm hW hE, by rw [hU]; exact hP, hD.weaken (fun _ _ _ _ => trivial)⟩⟩ rfl rfl hl.1 rfl (lv_room (Nat.le_of_ble_eq_true rfl)) dM_pin_137 ⟨Nat.zero_le _, Nat.zero_le _⟩) hS (fun q _ h => hFc q h) hFc (fun u_12 t H1 locs ht hvm hw hB hz1 hk1 hS => ?_)
            have hB : va_P (dC, dI) clB (mw h ad ka 0 mnw mcp mcb mcv mcl mbl mpl (secF mfm np (nI b) 8) (secF mto np (nI u) 8) (fsF mfs np (rs1 (mst f0)) 8) (lsF mls np (rs1 (mst f0)) 8) (upd mpg f0 x) (upd mpn f0 1) (upd u1 f0 1) (upd (upd mdi f0 0) f0 0) (upd (upd mst f0 (rs1 (mst f0))) f0 ((fsF mfs np (rs1 (mst f0)) 8) n)) (upd mbs f0 ((secF mfm np (nI b) 8) (8 * n))) (nI (nxt f0)) (if (plcF mcp mcl mpl (mpg f0) b (u - b)) ≤ men then men else (plcF mcp mcl mpl (mpg f0) b (u - b))) (if (plcF mcp mcl mpl (mpg f0) b (u - b)) ≤ men then mfl else mfl + 1) (mrd + 1) (mwn + nI 8) (mlA mlf 8)) H1 := by rw [← ht]; exact hB
            obtain ⟨hP, hD⟩ := (⟨hB, mw_D hDw⟩ : va_P (dC, dI) clB (mw h ad ka 0 mnw mcp mcb mcv mcl mbl mpl (secF mfm np (nI b) 8) (secF mto np (nI u) 8) (fsF mfs np (rs1 (mst f0)) 8) (lsF mls np (rs1 (mst f0)) 8) (upd mpg f0 x) (upd mpn f0 1) (upd u1 f0 1) (upd (upd mdi f0 0) f0 0) (upd (upd mst f0 (rs1 (mst f0))) f0 ((fsF mfs np (rs1 (mst f0)) 8) n)) (upd mbs f0 ((secF mfm np (nI b) 8) (8 * n))) (nI (nxt f0)) (if (plcF mcp mcl mpl (mpg f0) b (u - b)) ≤ men then men else (plcF mcp mcl mpl (mpg f0) b (u - b))) (if (plcF mcp mcl mpl (mpg f0) b (u - b)) ≤ men then mfl else mfl + 1) (mrd + 1) (mwn + nI 8) (mlA mlf 8)) H1 ∧ va_D A (mw h ad ka 0 mnw mcp mcb mcv mcl mbl mpl (secF mfm np (nI b) 8) (secF mto np (nI u) 8) (fsF mfs np (rs1 (mst f0)) 8) (lsF mls np (rs1 (mst f0)) 8) (upd mpg f0 x) (upd mpn f0 1) (upd u1 f0 1) (upd (upd mdi f0 0) f0 0) (upd (upd mst f0 (rs1 (mst f0))) f0 ((fsF mfs np (rs1 (mst f0)) 8) n)) (upd mbs f0 ((secF mfm np (nI b) 8) (8 * n))) (nI (nxt f0)) (if (plcF mcp mcl mpl (mpg f0) b (u - b)) ≤ men then men else (plcF mcp mcl mpl (mpg f0) b (u - b))) (if (plcF mcp mcl mpl (mpg f0) b (u - b)) ≤ men then mfl else mfl + 1) (mrd + 1) (mwn + nI 8) (mlA mlf 8)))
            generalize H1 = H at hP hS ⊢
            have hP : va_P (dC, dI) clB (mw h ad ka 0 mnw mcp mcb mcv mcl mbl mpl (secF mfm np (nI b) 8) (secF mto np (nI u) 8) (fsF mfs np (rs1 (mst f0)) 8) (lsF mls np (rs1 (mst f0)) 8) (upd mpg f0 x) (upd mpn f0 1) (upd u1 f0 1) (upd (upd mdi f0 0) f0 0) (upd (upd mst f0 (rs1 (mst f0))) f0 ((fsF mfs np (rs1 (mst f0)) 8) n)) (upd mbs f0 ((secF mfm np (nI b) 8) (8 * n))) (nI (nxt f0)) (if (plcF mcp mcl mpl (mpg f0) b (u - b)) ≤ men then men else (plcF mcp mcl mpl (mpg f0) b (u - b))) (if (plcF mcp mcl mpl (mpg f0) b (u - b)) ≤ men then mfl else mfl + 1) (mrd + 1) (mwn + nI 8) (mlA mlf 8)) H := hP
            have hD : va_D A (mw h ad ka 0 mnw mcp mcb mcv mcl mbl mpl (secF mfm np (nI b) 8) (secF mto np (nI u) 8) (fsF mfs np (rs1 (mst f0)) 8) (lsF mls np (rs1 (mst f0)) 8) (upd mpg f0 x) (upd mpn f0 1) (upd u1 f0 1) (upd (upd mdi f0 0) f0 0) (upd (upd mst f0 (rs1 (mst f0))) f0 ((fsF mfs np (rs1 (mst f0)) 8) n)) (upd mbs f0 ((secF mfm np (nI b) 8) (8 * n))) (nI (nxt f0)) (if (plcF mcp mcl mpl (mpg f0) b (u - b)) ≤ men then men else (plcF mcp mcl mpl (mpg f0) b (u - b))) (if (plcF mcp mcl mpl (mpg f0) b (u - b)) ≤ men then mfl else mfl + 1) (mrd + 1) (mwn + nI 8) (mlA mlf 8)) := mw_D hDw
            refine lv_iload_n hx hb dM_pin_140 rfl (lv_at hl 0 rfl) ?_
            exact W.iret (v := (nI f0)) hx hb hr (fun t ht hW => ⟨⟨(nI f0), (), rfl, rfl, by show va_P _ _ _ t.heap; rw [ht]; exact hP⟩, hS.F ht⟩) hS.2.2 dM_pin_141
          · exact absurd (nI_pos' (n := f0) (by omega)) c_11
        · exact absurd c_8 (by decide)
    · exact absurd c_4 (by decide)
  · exact absurd c_2 (by decide)

set_option maxHeartbeats 4000000 in
set_option maxRecDepth 100000 in
theorem c_M_pin_x (l : Launch) (dC : Nat → ClassId) (dI : Nat → Nat → Nat) (ka : Nat → ClassId) (sz : Nat) (h : Nat) (ad : Nat → Nat) (mth mnw : Int32) (mcp mcb mcv mcl mbl mpl mfm mto mfs mls mpg mpn mus mdi mst mbs : Nat → Int32) (men mfl mrd mwn mlf : Int32) (q : Nat) (x : Int32) (n : Nat) (f0 np b u mm : Nat) (u1 : Nat → Int32) (cpN cbN : Nat → Nat) (ex : x = nI n) (hn : n < 192) (hfo : foM mpg x 12 = -1) (hap : apM mpg mpn 12 = 0) (hnt : mfs n = mls n) (hall : ∀ i, i < 12 → ¬ mpg i < 0) (hq0 : q < 12) (hf0 : f0 < 12) (hus0 : ∀ i, i < 12 → ¬ mus i < 0) (hHB : hbU mpn 48 (mus, q) = (u1, f0)) (htk : mpn f0 = 0 ∧ u1 f0 = 0) (hd0 : ¬ mdi f0 = 0) (hpg : mpg f0 = nI np) (hnp : np < 192) (eb : mbs f0 = nI b) (eu : mnw = nI u) (hbu : b ≤ u) (hu : u < 520) (hch : ∀ e, 1 ≤ e → e ≤ u → mcp e = nI (cpN e) ∧ cpN e < 192 ∧ mcb e = nI (cbN e) ∧ cbN e < 512) (hm8 : mm < 8) (hnz : ∀ z, z < mm → ¬ mlA mlf z = 0) (h0 : mlA mlf mm = 0) : Met l yM_pin wM_pin ({ frames := 4, cells := 0, slots := 0, locals := 92 }) (va_Pc [.ref h, .int x] (fun U => U.heap.size = sz ∧ tk_E dC dI ka U ∧ va_P (dC, dI) clB (mw h ad ka mth mnw mcp mcb mcv mcl mbl mpl mfm mto mfs mls mpg mpn mus mdi mst mbs (nI q) men mfl mrd mwn mlf) U.heap ∧ va_D (fun _ => True) (mw h ad ka mth mnw mcp mcb mcv mcl mbl mpl mfm mto mfs mls mpg mpn mus mdi mst mbs (nI q) men mfl mrd mwn mlf))) (va_Qi (fun (r : Int32) (_ : Unit) => r = 0) (fun _ t => va_P (dC, dI) clB (mw h ad ka 4 mnw mcp mcb mcv mcl (stepF mbl (lsB mbl (secF mto np (nI u) mm) cpN cbN) (u + 1)) (stepF mpl (lsP mpl (secF mto np (nI u) mm) cpN) (u + 1)) (secF mfm np (nI b) mm) (secF mto np (nI u) mm) (fsF mfs np (rs1 (mst f0)) mm) (lsF mls np (rs1 (mst f0)) mm) (dropF (-1) mpg 12) mpn u1 mdi (upd mst f0 (rs1 (mst f0))) mbs 0 (if (plcF mcp mcl mpl (mpg f0) b (u - b)) ≤ men then men else (plcF mcp mcl mpl (mpg f0) b (u - b))) (if (plcF mcp mcl mpl (mpg f0) b (u - b)) ≤ men then mfl else mfl + 1) mrd (mwn + nI mm) (-1)) t.heap) (va_A (mw h ad ka mth mnw mcp mcb mcv mcl mbl mpl mfm mto mfs mls mpg mpn mus mdi mst mbs (nI q) men mfl mrd mwn mlf) sz)) 0 0 (va_A (mw h ad ka mth mnw mcp mcb mcv mcl mbl mpl mfm mto mfs mls mpg mpn mus mdi mst mbs (nI q) men mfl mrd mwn mlf) sz) := by
  refine Met.ofW (cc := cM_pin) (maxL := 3) (ret := (some .int)) (by decide) rfl ?_
  intro p e s m args below meth c s₁ B hml hv
  obtain ⟨rfl, hsz, hE, hP, hD0⟩ := hv
  have hx := B.exec
  have hb := B.bytes
  have hr := B.returns
  have hts := atoms_spec (ws := wM_pin) B.pre
  have hq : ∀ w ∈ lwg, w.before _ s = true := fun w h => hts w (List.mem_cons_of_mem _ h)
  have hown : s.vm.findClass RM = some m.cls := findClass_of_methodNamed B.named
  have hlocks := B.notSynchronized
  have hK := hE.1
  have hN := hE.2
  subst hsz
  have hD := hD0.self (sz := s.heap.size)
  generalize hAe : va_A (mw h ad ka mth mnw mcp mcb mcv mcl mbl mpl mfm mto mfs mls mpg mpn mus mdi mst mbs (nI q) men mfl mrd mwn mlf) s.heap.size = A at hD ⊢
  have hA : ∀ q : Nat, s.heap.size ≤ q → A q := fun q h => by rw [← hAe]; exact Or.inr h
  have hS : va_S A s.heap s.heap [] := va_S.rf
  have hDw := hD
  have hP : va_P (dC, dI) clB (mw h ad ka mth mnw mcp mcb mcv mcl mbl mpl mfm mto mfs mls mpg mpn mus mdi mst mbs (nI q) men mfl mrd mwn mlf) s.heap := hP
  have hl := lv_entry ([.ref h, .int x]) (n := 3) (Nat.le_of_ble_eq_true rfl)
  rw [lg_entry_eq]
  generalize (lg_sl ([.ref h, .int x]) ++ List.replicate (3 - (lg_sl ([.ref h, .int x])).length) Slot.unset).toArray = ls at hl ⊢
  have hl : lv_has ls 3 [(0, .ref h), (1, .int x)] := hl
  refine lv_aload_n hx hb dM_pin_0 rfl (lv_at hl 0 rfl) ?_
  refine lv_iconst (v := 0) hx hb dM_pin_1 (by decide) ?_
  refine va_put (D := (dC, dI)) (ci := 4) (v := .int 0) (ty := .int) (C := RM) (T := TM) (N := 24) hx hb hts (inC inM) tyM tyM_ok nmM hown hK hP hD hS 0 rfl rfl 0 (by decide) (hq _ wi_466) (fun _ h9 => h9) rfl (by decide +kernel) rfl rfl (Nat.le_of_ble_eq_true rfl) dM_pin_2 (fun H locs hP hD hS => ?_)
  have hP : va_P (dC, dI) clB (mw h ad ka 0 mnw mcp mcb mcv mcl mbl mpl mfm mto mfs mls mpg mpn mus mdi mst mbs (nI q) men mfl mrd mwn mlf) H := hP
  have hD : va_D A (mw h ad ka 0 mnw mcp mcb mcv mcl mbl mpl mfm mto mfs mls mpg mpn mus mdi mst mbs (nI q) men mfl mrd mwn mlf) := mw_D hDw
  refine lv_iload_n hx hb dM_pin_5 rfl (lv_at hl 1 rfl) ?_
  refine vp_callSi (va_Run.run (va_runS (As := [.int x]) (rest := []) ⟨hx, hb, hml, hown, hts⟩ (c_M_isPage l dC dI ka x) (cwS 1 hts (tw_S wi_569 wi_570 wi_28 wi_571) rfl rfl rfl (by decide +kernel) ⟨Nat.le_of_ble_eq_true rfl, Nat.le_of_ble_eq_true rfl⟩) ⟨fun a U g mk q => ⟨q.1, tk_E.call q.2.1, q.2.2⟩, fun U hU hW => ⟨rfl, tk_E.warm hW hE, by rw [hU]; exact (fun _ _ h => nomatch h)⟩⟩ rfl rfl hl.1 rfl (lv_room (Nat.le_of_ble_eq_true rfl)) dM_pin_6 ⟨Nat.zero_le _, Nat.zero_le _⟩)) (fun r_1 er_1 => ?_)
  replace er_1 := er_1.trans (tk_is1 (N := 192) ex hn (by decide))
  subst er_1
  refine lv_if_ne (tgt := 18) hx hb dM_pin_9 (by decide) (fun c_2 => ?_) (fun c_2 => ?_)
  · refine lv_aload_n hx hb dM_pin_18 rfl (lv_at hl 0 rfl) ?_
    refine lv_iload_n hx hb dM_pin_19 rfl (lv_at hl 1 rfl) ?_
    refine vp_callSi (va_Run.run (va_runV (As := [.int x]) (rest := []) ⟨hx, hb, hml, hown, hts⟩ (c_M_frameOf l dC dI ka h ad 0 mnw mcp mcb mcv mcl mbl mpl mfm mto mfs mls mpg mpn mus mdi mst mbs (nI q) men mfl mrd mwn mlf x ) (cwV 1 hts (tw_V wi_588 wi_590 wi_16 wi_28 wi_591) rfl rfl rfl (by decide +kernel) ⟨Nat.le_of_ble_eq_true rfl, Nat.le_of_ble_eq_true rfl⟩) ⟨fun a U g mk q => ⟨q.1, tk_E.call q.2.1, q.2.2⟩, va_recv hK hP (ci := 4) (q0 := 0) rfl rfl, fun U hU hW => ⟨rfl, tk_E.warm hW hE, by rw [hU]; exact hP⟩⟩ rfl rfl hl.1 rfl (lv_room (Nat.le_of_ble_eq_true rfl)) dM_pin_20 ⟨Nat.zero_le _, Nat.zero_le _⟩)) (fun r_3 er_3 => ?_)
    replace er_3 := er_3.trans (hfo)
    subst er_3
    refine lv_istore_n (lv' := [(2, .int (-1)), (0, .ref h), (1, .int x)]) hx hb dM_pin_23 rfl hl (by decide) rfl (fun ls hl => ?_)
    refine lv_iload_n hx hb dM_pin_24 rfl (lv_at hl 0 rfl) ?_
    refine lv_if_lt (tgt := 68) hx hb dM_pin_25 (by decide) (fun c_4 => ?_) (fun c_4 => ?_)
    · refine lv_aload_n hx hb dM_pin_68 rfl (lv_at hl 1 rfl) ?_
      refine vp_callSi (va_Run.run (va_runV (As := []) (rest := []) ⟨hx, hb, hml, hown, hts⟩ (c_M_allPinned l dC dI ka h ad 0 mnw mcp mcb mcv mcl mbl mpl mfm mto mfs mls mpg mpn mus mdi mst mbs (nI q) men mfl mrd mwn mlf ) (cwV 0 hts (tw_V wi_592 wi_594 wi_17 wi_28 wi_595) rfl rfl rfl (by decide +kernel) ⟨Nat.le_of_ble_eq_true rfl, Nat.le_of_ble_eq_true rfl⟩) ⟨fun a U g mk q => ⟨q.1, tk_E.call q.2.1, q.2.2⟩, va_recv hK hP (ci := 4) (q0 := 0) rfl rfl, fun U hU hW => ⟨rfl, tk_E.warm hW hE, by rw [hU]; exact hP⟩⟩ rfl rfl hl.1 rfl (lv_room (Nat.le_of_ble_eq_true rfl)) dM_pin_69 ⟨Nat.zero_le _, Nat.zero_le _⟩)) (fun r_5 er_5 => ?_)
      replace er_5 := er_5.trans (hap)
      subst er_5
      refine lv_if_ne (tgt := 83) hx hb dM_pin_72 (by decide) (fun c_6 => ?_) (fun c_6 => ?_)
      · exact absurd c_6 (by decide)
      · refine lv_aload_n hx hb dM_pin_75 rfl (lv_at hl 1 rfl) ?_
        refine lv_iload_n hx hb dM_pin_76 rfl (lv_at hl 2 rfl) ?_
        refine vp_callSi (va_Run.run (va_runV (As := [.int x]) (rest := []) ⟨hx, hb, hml, hown, hts⟩ (c_M_isTorn l dC dI ka h ad 0 mnw mcp mcb mcv mcl mbl mpl mfm mto mfs mls mpg mpn mus mdi mst mbs (nI q) men mfl mrd mwn mlf x n ex hn) (cwV 1 hts (tw_V wi_576 wi_578 wi_14 wi_28 wi_579) rfl rfl rfl (by decide +kernel) ⟨Nat.le_of_ble_eq_true rfl, Nat.le_of_ble_eq_true rfl⟩) ⟨fun a U g mk q => ⟨q.1, tk_E.call q.2.1, q.2.2⟩, va_recv hK hP (ci := 4) (q0 := 0) rfl rfl, fun U hU hW => ⟨rfl, tk_E.warm hW hE, by rw [hU]; exact hP⟩⟩ rfl rfl hl.1 rfl (lv_room (Nat.le_of_ble_eq_true rfl)) dM_pin_77 ⟨Nat.zero_le _, Nat.zero_le _⟩)) (fun r_7 er_7 => ?_)
        replace er_7 := er_7.trans (if_pos hnt)
        subst er_7
        refine lv_if_eq (tgt := 100) hx hb dM_pin_80 (by decide) (fun c_8 => ?_) (fun c_8 => ?_)
        · refine lv_aload_n hx hb dM_pin_100 rfl (lv_at hl 1 rfl) ?_
          have hFc := tk_freeW hD hS hA
          refine va_calli (va_runV (As := []) (rest := []) ⟨hx, hb, hml, hown, hts⟩ (c_M_found_x l dC dI ka _ h ad 0 mnw mcp mcb mcv mcl mbl mpl mfm mto mfs mls mpg mpn mus mdi mst mbs men mfl mrd mwn mlf q f0 np b u mm u1 cpN cbN hall hq0 hf0 hus0 hHB htk hd0 hpg hnp eb eu hbu hu hch hm8 hnz h0) (cwV 0 hts (tw_V wi_596 wi_598 wi_18 wi_28 wi_599) rfl rfl rfl (by decide +kernel) ⟨Nat.le_of_ble_eq_true rfl, Nat.le_of_ble_eq_true rfl⟩) ⟨fun a U g mk q => ⟨q.1, q.2.1, tk_E.call q.2.2.1, q.2.2.2⟩, va_recv hK hP (ci := 4) (q0 := 0) rfl rfl, fun U hU hW => ⟨rfl, by rw [hU], tk_E.warm hW hE, by rw [hU]; exact hP, hD.weaken (fun _ _ _ _ => trivial)⟩⟩ rfl rfl hl.1 rfl (lv_room (Nat.le_of_ble_eq_true rfl)) dM_pin_101 ⟨Nat.zero_le _, Nat.zero_le _⟩) hS (fun q _ h => hFc q h) hFc (fun r_10 u_9 t H1 locs ht hvm hw hB hz1 hk1 hS => ?_)
          have hB : va_P (dC, dI) clB (mw h ad ka 0 mnw mcp mcb mcv mcl (stepF mbl (lsB mbl (secF mto np (nI u) mm) cpN cbN) (u + 1)) (stepF mpl (lsP mpl (secF mto np (nI u) mm) cpN) (u + 1)) (secF mfm np (nI b) mm) (secF mto np (nI u) mm) (fsF mfs np (rs1 (mst f0)) mm) (lsF mls np (rs1 (mst f0)) mm) (dropF (-1) mpg 12) mpn u1 mdi (upd mst f0 (rs1 (mst f0))) mbs 0 (if (plcF mcp mcl mpl (mpg f0) b (u - b)) ≤ men then men else (plcF mcp mcl mpl (mpg f0) b (u - b))) (if (plcF mcp mcl mpl (mpg f0) b (u - b)) ≤ men then mfl else mfl + 1) mrd (mwn + nI mm) (-1)) H1 := by rw [← ht]; exact hB
          obtain ⟨hP, hD⟩ := (⟨hB, mw_D hDw⟩ : va_P (dC, dI) clB (mw h ad ka 0 mnw mcp mcb mcv mcl (stepF mbl (lsB mbl (secF mto np (nI u) mm) cpN cbN) (u + 1)) (stepF mpl (lsP mpl (secF mto np (nI u) mm) cpN) (u + 1)) (secF mfm np (nI b) mm) (secF mto np (nI u) mm) (fsF mfs np (rs1 (mst f0)) mm) (lsF mls np (rs1 (mst f0)) mm) (dropF (-1) mpg 12) mpn u1 mdi (upd mst f0 (rs1 (mst f0))) mbs 0 (if (plcF mcp mcl mpl (mpg f0) b (u - b)) ≤ men then men else (plcF mcp mcl mpl (mpg f0) b (u - b))) (if (plcF mcp mcl mpl (mpg f0) b (u - b)) ≤ men then mfl else mfl + 1) mrd (mwn + nI mm) (-1)) H1 ∧ va_D A (mw h ad ka 0 mnw mcp mcb mcv mcl (stepF mbl (lsB mbl (secF mto np (nI u) mm) cpN cbN) (u + 1)) (stepF mpl (lsP mpl (secF mto np (nI u) mm) cpN) (u + 1)) (secF mfm np (nI b) mm) (secF mto np (nI u) mm) (fsF mfs np (rs1 (mst f0)) mm) (lsF mls np (rs1 (mst f0)) mm) (dropF (-1) mpg 12) mpn u1 mdi (upd mst f0 (rs1 (mst f0))) mbs 0 (if (plcF mcp mcl mpl (mpg f0) b (u - b)) ≤ men then men else (plcF mcp mcl mpl (mpg f0) b (u - b))) (if (plcF mcp mcl mpl (mpg f0) b (u - b)) ≤ men then mfl else mfl + 1) mrd (mwn + nI mm) (-1)))
          generalize H1 = H at hP hS ⊢
          have hP : va_P (dC, dI) clB (mw h ad ka 0 mnw mcp mcb mcv mcl (stepF mbl (lsB mbl (secF mto np (nI u) mm) cpN cbN) (u + 1)) (stepF mpl (lsP mpl (secF mto np (nI u) mm) cpN) (u + 1)) (secF mfm np (nI b) mm) (secF mto np (nI u) mm) (fsF mfs np (rs1 (mst f0)) mm) (lsF mls np (rs1 (mst f0)) mm) (dropF (-1) mpg 12) mpn u1 mdi (upd mst f0 (rs1 (mst f0))) mbs 0 (if (plcF mcp mcl mpl (mpg f0) b (u - b)) ≤ men then men else (plcF mcp mcl mpl (mpg f0) b (u - b))) (if (plcF mcp mcl mpl (mpg f0) b (u - b)) ≤ men then mfl else mfl + 1) mrd (mwn + nI mm) (-1)) H := hP
          have hD : va_D A (mw h ad ka 0 mnw mcp mcb mcv mcl (stepF mbl (lsB mbl (secF mto np (nI u) mm) cpN cbN) (u + 1)) (stepF mpl (lsP mpl (secF mto np (nI u) mm) cpN) (u + 1)) (secF mfm np (nI b) mm) (secF mto np (nI u) mm) (fsF mfs np (rs1 (mst f0)) mm) (lsF mls np (rs1 (mst f0)) mm) (dropF (-1) mpg 12) mpn u1 mdi (upd mst f0 (rs1 (mst f0))) mbs 0 (if (plcF mcp mcl mpl (mpg f0) b (u - b)) ≤ men then men else (plcF mcp mcl mpl (mpg f0) b (u - b))) (if (plcF mcp mcl mpl (mpg f0) b (u - b)) ≤ men then mfl else mfl + 1) mrd (mwn + nI mm) (-1)) := mw_D hDw
          subst hw
          refine lv_istore_n (lv' := [(2, .int (-1)), (0, .ref h), (1, .int x)]) hx hb dM_pin_104 rfl hl (by decide) rfl (fun ls hl => ?_)
          refine lv_iload_n hx hb dM_pin_105 rfl (lv_at hl 0 rfl) ?_
          refine lv_if_ge (tgt := 115) hx hb dM_pin_106 (by decide) (fun c_11 => ?_) (fun c_11 => ?_)
          · exact absurd c_11 (by decide)
          · refine lv_aload_n hx hb dM_pin_109 rfl (lv_at hl 1 rfl) ?_
            refine lv_iconst (v := 4) hx hb dM_pin_110 (by decide) ?_
            have hFc := tk_freeW hD hS hA
            refine va_calli (va_runV (As := [.int 4]) (rest := []) ⟨hx, hb, hml, hown, hts⟩ (c_M_fails l dC dI ka _ h ad 0 mnw mcp mcb mcv mcl (stepF mbl (lsB mbl (secF mto np (nI u) mm) cpN cbN) (u + 1)) (stepF mpl (lsP mpl (secF mto np (nI u) mm) cpN) (u + 1)) (secF mfm np (nI b) mm) (secF mto np (nI u) mm) (fsF mfs np (rs1 (mst f0)) mm) (lsF mls np (rs1 (mst f0)) mm) (dropF (-1) mpg 12) mpn u1 mdi (upd mst f0 (rs1 (mst f0))) mbs 0 (if (plcF mcp mcl mpl (mpg f0) b (u - b)) ≤ men then men else (plcF mcp mcl mpl (mpg f0) b (u - b))) (if (plcF mcp mcl mpl (mpg f0) b (u - b)) ≤ men then mfl else mfl + 1) mrd (mwn + nI mm) (-1) 4 ) (cwV 1 hts (tw_V wi_584 wi_586 wi_15 wi_28 wi_587) rfl rfl rfl (by decide +kernel) ⟨Nat.le_of_ble_eq_true rfl, Nat.le_of_ble_eq_true rfl⟩) ⟨fun a U g mk q => ⟨q.1, q.2.1, tk_E.call q.2.2.1, q.2.2.2⟩, va_recv hK hP (ci := 4) (q0 := 0) rfl rfl, fun U hU hW => ⟨rfl, by rw [hU], tk_E.warm hW hE, by rw [hU]; exact hP, hD.weaken (fun _ _ _ _ => trivial)⟩⟩ rfl rfl hl.1 rfl (lv_room (Nat.le_of_ble_eq_true rfl)) dM_pin_111 ⟨Nat.zero_le _, Nat.zero_le _⟩) hS (fun q _ h => hFc q h) hFc (fun r_13 u_12 t H1 locs ht hvm hw hB hz1 hk1 hS => ?_)
            have hB : va_P (dC, dI) clB (mw h ad ka 4 mnw mcp mcb mcv mcl (stepF mbl (lsB mbl (secF mto np (nI u) mm) cpN cbN) (u + 1)) (stepF mpl (lsP mpl (secF mto np (nI u) mm) cpN) (u + 1)) (secF mfm np (nI b) mm) (secF mto np (nI u) mm) (fsF mfs np (rs1 (mst f0)) mm) (lsF mls np (rs1 (mst f0)) mm) (dropF (-1) mpg 12) mpn u1 mdi (upd mst f0 (rs1 (mst f0))) mbs 0 (if (plcF mcp mcl mpl (mpg f0) b (u - b)) ≤ men then men else (plcF mcp mcl mpl (mpg f0) b (u - b))) (if (plcF mcp mcl mpl (mpg f0) b (u - b)) ≤ men then mfl else mfl + 1) mrd (mwn + nI mm) (-1)) H1 := by rw [← ht]; exact hB
            obtain ⟨hP, hD⟩ := (⟨hB, mw_D hDw⟩ : va_P (dC, dI) clB (mw h ad ka 4 mnw mcp mcb mcv mcl (stepF mbl (lsB mbl (secF mto np (nI u) mm) cpN cbN) (u + 1)) (stepF mpl (lsP mpl (secF mto np (nI u) mm) cpN) (u + 1)) (secF mfm np (nI b) mm) (secF mto np (nI u) mm) (fsF mfs np (rs1 (mst f0)) mm) (lsF mls np (rs1 (mst f0)) mm) (dropF (-1) mpg 12) mpn u1 mdi (upd mst f0 (rs1 (mst f0))) mbs 0 (if (plcF mcp mcl mpl (mpg f0) b (u - b)) ≤ men then men else (plcF mcp mcl mpl (mpg f0) b (u - b))) (if (plcF mcp mcl mpl (mpg f0) b (u - b)) ≤ men then mfl else mfl + 1) mrd (mwn + nI mm) (-1)) H1 ∧ va_D A (mw h ad ka 4 mnw mcp mcb mcv mcl (stepF mbl (lsB mbl (secF mto np (nI u) mm) cpN cbN) (u + 1)) (stepF mpl (lsP mpl (secF mto np (nI u) mm) cpN) (u + 1)) (secF mfm np (nI b) mm) (secF mto np (nI u) mm) (fsF mfs np (rs1 (mst f0)) mm) (lsF mls np (rs1 (mst f0)) mm) (dropF (-1) mpg 12) mpn u1 mdi (upd mst f0 (rs1 (mst f0))) mbs 0 (if (plcF mcp mcl mpl (mpg f0) b (u - b)) ≤ men then men else (plcF mcp mcl mpl (mpg f0) b (u - b))) (if (plcF mcp mcl mpl (mpg f0) b (u - b)) ≤ men then mfl else mfl + 1) mrd (mwn + nI mm) (-1)))
            generalize H1 = H at hP hS ⊢
            have hP : va_P (dC, dI) clB (mw h ad ka 4 mnw mcp mcb mcv mcl (stepF mbl (lsB mbl (secF mto np (nI u) mm) cpN cbN) (u + 1)) (stepF mpl (lsP mpl (secF mto np (nI u) mm) cpN) (u + 1)) (secF mfm np (nI b) mm) (secF mto np (nI u) mm) (fsF mfs np (rs1 (mst f0)) mm) (lsF mls np (rs1 (mst f0)) mm) (dropF (-1) mpg 12) mpn u1 mdi (upd mst f0 (rs1 (mst f0))) mbs 0 (if (plcF mcp mcl mpl (mpg f0) b (u - b)) ≤ men then men else (plcF mcp mcl mpl (mpg f0) b (u - b))) (if (plcF mcp mcl mpl (mpg f0) b (u - b)) ≤ men then mfl else mfl + 1) mrd (mwn + nI mm) (-1)) H := hP
            have hD : va_D A (mw h ad ka 4 mnw mcp mcb mcv mcl (stepF mbl (lsB mbl (secF mto np (nI u) mm) cpN cbN) (u + 1)) (stepF mpl (lsP mpl (secF mto np (nI u) mm) cpN) (u + 1)) (secF mfm np (nI b) mm) (secF mto np (nI u) mm) (fsF mfs np (rs1 (mst f0)) mm) (lsF mls np (rs1 (mst f0)) mm) (dropF (-1) mpg 12) mpn u1 mdi (upd mst f0 (rs1 (mst f0))) mbs 0 (if (plcF mcp mcl mpl (mpg f0) b (u - b)) ≤ men then men else (plcF mcp mcl mpl (mpg f0) b (u - b))) (if (plcF mcp mcl mpl (mpg f0) b (u - b)) ≤ men then mfl else mfl + 1) mrd (mwn + nI mm) (-1)) := mw_D hDw
            subst hw
            exact W.iret (v := 0) hx hb hr (fun t ht hW => ⟨⟨0, (), rfl, rfl, by show va_P _ _ _ t.heap; rw [ht]; exact hP⟩, hS.F ht⟩) hS.2.2 dM_pin_114
        · exact absurd c_8 (by decide)
    · exact absurd c_4 (by decide)
  · exact absurd c_2 (by decide)

set_option maxHeartbeats 4000000 in
set_option maxRecDepth 100000 in
theorem c_M_remake_p0 (l : Launch) (dC : Nat → ClassId) (dI : Nat → Nat → Nat) (ka : Nat → ClassId) (sz : Nat) (h : Nat) (ad : Nat → Nat) (mth mnw : Int32) (mcp mcb mcv mcl mbl mpl mfm mto mfs mls mpg mpn mus mdi mst mbs : Nat → Int32) (mhd men mfl mrd mwn mlf : Int32) (x : Int32) (hx0 : x < 0 ∨ nI 192 ≤ x) : Met l yM_remake wM_remake ({ frames := 1, cells := 0, slots := 0, locals := 21 }) (va_Pc [.ref h, .int x] (fun U => U.heap.size = sz ∧ tk_E dC dI ka U ∧ va_P (dC, dI) clB (mw h ad ka mth mnw mcp mcb mcv mcl mbl mpl mfm mto mfs mls mpg mpn mus mdi mst mbs mhd men mfl mrd mwn mlf) U.heap ∧ va_D (fun _ => True) (mw h ad ka mth mnw mcp mcb mcv mcl mbl mpl mfm mto mfs mls mpg mpn mus mdi mst mbs mhd men mfl mrd mwn mlf))) (va_Qi (fun (r : Int32) (_ : Unit) => r = 0) (fun _ t => va_P (dC, dI) clB (mw h ad ka 1 mnw mcp mcb mcv mcl mbl mpl mfm mto mfs mls mpg mpn mus mdi mst mbs mhd men mfl mrd mwn mlf) t.heap) (va_A (mw h ad ka mth mnw mcp mcb mcv mcl mbl mpl mfm mto mfs mls mpg mpn mus mdi mst mbs mhd men mfl mrd mwn mlf) sz)) 0 0 (va_A (mw h ad ka mth mnw mcp mcb mcv mcl mbl mpl mfm mto mfs mls mpg mpn mus mdi mst mbs mhd men mfl mrd mwn mlf) sz) := by
  refine Met.ofW (cc := cM_remake) (maxL := 3) (ret := (some .int)) (by decide) rfl ?_
  intro p e s m args below meth c s₁ B hml hv
  obtain ⟨rfl, hsz, hE, hP, hD0⟩ := hv
  have hx := B.exec
  have hb := B.bytes
  have hr := B.returns
  have hts := atoms_spec (ws := wM_remake) B.pre
  have hq : ∀ w ∈ lwg, w.before _ s = true := fun w h => hts w (List.mem_cons_of_mem _ h)
  have hown : s.vm.findClass RM = some m.cls := findClass_of_methodNamed B.named
  have hlocks := B.notSynchronized
  have hK := hE.1
  have hN := hE.2
  subst hsz
  have hD := hD0.self (sz := s.heap.size)
  generalize hAe : va_A (mw h ad ka mth mnw mcp mcb mcv mcl mbl mpl mfm mto mfs mls mpg mpn mus mdi mst mbs mhd men mfl mrd mwn mlf) s.heap.size = A at hD ⊢
  have hA : ∀ q : Nat, s.heap.size ≤ q → A q := fun q h => by rw [← hAe]; exact Or.inr h
  have hS : va_S A s.heap s.heap [] := va_S.rf
  have hDw := hD
  have hP : va_P (dC, dI) clB (mw h ad ka mth mnw mcp mcb mcv mcl mbl mpl mfm mto mfs mls mpg mpn mus mdi mst mbs mhd men mfl mrd mwn mlf) s.heap := hP
  have hl := lv_entry ([.ref h, .int x]) (n := 3) (Nat.le_of_ble_eq_true rfl)
  rw [lg_entry_eq]
  generalize (lg_sl ([.ref h, .int x]) ++ List.replicate (3 - (lg_sl ([.ref h, .int x])).length) Slot.unset).toArray = ls at hl ⊢
  have hl : lv_has ls 3 [(0, .ref h), (1, .int x)] := hl
  refine lv_aload_n hx hb dM_remake_0 rfl (lv_at hl 0 rfl) ?_
  refine lv_iconst (v := 0) hx hb dM_remake_1 (by decide) ?_
  refine va_put (D := (dC, dI)) (ci := 4) (v := .int 0) (ty := .int) (C := RM) (T := TM) (N := 24) hx hb hts (inC inM) tyM tyM_ok nmM hown hK hP hD hS 0 rfl rfl 0 (by decide) (hq _ wi_466) (fun _ h9 => h9) rfl (by decide +kernel) rfl rfl (Nat.le_of_ble_eq_true rfl) dM_remake_2 (fun H locs hP hD hS => ?_)
  have hP : va_P (dC, dI) clB (mw h ad ka 0 mnw mcp mcb mcv mcl mbl mpl mfm mto mfs mls mpg mpn mus mdi mst mbs mhd men mfl mrd mwn mlf) H := hP
  have hD : va_D A (mw h ad ka 0 mnw mcp mcb mcv mcl mbl mpl mfm mto mfs mls mpg mpn mus mdi mst mbs mhd men mfl mrd mwn mlf) := mw_D hDw
  refine lv_iload_n hx hb dM_remake_5 rfl (lv_at hl 1 rfl) ?_
  refine vp_callSi (va_Run.run (va_runS (As := [.int x]) (rest := []) ⟨hx, hb, hml, hown, hts⟩ (c_M_isPage l dC dI ka x) (cwS 1 hts (tw_S wi_569 wi_570 wi_28 wi_571) rfl rfl rfl (by decide +kernel) ⟨Nat.le_of_ble_eq_true rfl, Nat.le_of_ble_eq_true rfl⟩) ⟨fun a U g mk q => ⟨q.1, tk_E.call q.2.1, q.2.2⟩, fun U hU hW => ⟨rfl, tk_E.warm hW hE, by rw [hU]; exact (fun _ _ h => nomatch h)⟩⟩ rfl rfl hl.1 rfl (lv_room (Nat.le_of_ble_eq_true rfl)) dM_remake_6 ⟨Nat.zero_le _, Nat.zero_le _⟩)) (fun r_1 er_1 => ?_)
  replace er_1 := er_1.trans (tk_is0 (N := 192) hx0)
  subst er_1
  refine lv_if_ne (tgt := 18) hx hb dM_remake_9 (by decide) (fun c_2 => ?_) (fun c_2 => ?_)
  · exact absurd c_2 (by decide)
  · refine lv_aload_n hx hb dM_remake_12 rfl (lv_at hl 0 rfl) ?_
    refine lv_iconst (v := 1) hx hb dM_remake_13 (by decide) ?_
    have hFc := tk_freeW hD hS hA
    refine va_calli (va_runV (As := [.int 1]) (rest := []) ⟨hx, hb, hml, hown, hts⟩ (c_M_fails l dC dI ka _ h ad 0 mnw mcp mcb mcv mcl mbl mpl mfm mto mfs mls mpg mpn mus mdi mst mbs mhd men mfl mrd mwn mlf 1 ) (cwV 1 hts (tw_V wi_584 wi_586 wi_15 wi_28 wi_587) rfl rfl rfl (by decide +kernel) ⟨Nat.le_of_ble_eq_true rfl, Nat.le_of_ble_eq_true rfl⟩) ⟨fun a U g mk q => ⟨q.1, q.2.1, tk_E.call q.2.2.1, q.2.2.2⟩, va_recv hK hP (ci := 4) (q0 := 0) rfl rfl, fun U hU hW => ⟨rfl, by rw [hU], tk_E.warm hW hE, by rw [hU]; exact hP, hD.weaken (fun _ _ _ _ => trivial)⟩⟩ rfl rfl hl.1 rfl (lv_room (Nat.le_of_ble_eq_true rfl)) dM_remake_14 ⟨Nat.zero_le _, Nat.zero_le _⟩) hS (fun q _ h => hFc q h) hFc (fun r_4 u_3 t H1 locs ht hvm hw hB hz1 hk1 hS => ?_)
    have hB : va_P (dC, dI) clB (mw h ad ka 1 mnw mcp mcb mcv mcl mbl mpl mfm mto mfs mls mpg mpn mus mdi mst mbs mhd men mfl mrd mwn mlf) H1 := by rw [← ht]; exact hB
    obtain ⟨hP, hD⟩ := (⟨hB, mw_D hDw⟩ : va_P (dC, dI) clB (mw h ad ka 1 mnw mcp mcb mcv mcl mbl mpl mfm mto mfs mls mpg mpn mus mdi mst mbs mhd men mfl mrd mwn mlf) H1 ∧ va_D A (mw h ad ka 1 mnw mcp mcb mcv mcl mbl mpl mfm mto mfs mls mpg mpn mus mdi mst mbs mhd men mfl mrd mwn mlf))
    generalize H1 = H at hP hS ⊢
    have hP : va_P (dC, dI) clB (mw h ad ka 1 mnw mcp mcb mcv mcl mbl mpl mfm mto mfs mls mpg mpn mus mdi mst mbs mhd men mfl mrd mwn mlf) H := hP
    have hD : va_D A (mw h ad ka 1 mnw mcp mcb mcv mcl mbl mpl mfm mto mfs mls mpg mpn mus mdi mst mbs mhd men mfl mrd mwn mlf) := mw_D hDw
    subst hw
    exact W.iret (v := 0) hx hb hr (fun t ht hW => ⟨⟨0, (), rfl, rfl, by show va_P _ _ _ t.heap; rw [ht]; exact hP⟩, hS.F ht⟩) hS.2.2 dM_remake_17

set_option maxHeartbeats 4000000 in
set_option maxRecDepth 100000 in
theorem c_M_remake_h (l : Launch) (dC : Nat → ClassId) (dI : Nat → Nat → Nat) (ka : Nat → ClassId) (sz : Nat) (h : Nat) (ad : Nat → Nat) (mth mnw : Int32) (mcp mcb mcv mcl mbl mpl mfm mto mfs mls mpg mpn mus mdi mst mbs : Nat → Int32) (mhd men mfl mrd mwn mlf : Int32) (x : Int32) (n j : Nat) (ex : x = nI n) (hn : n < 192) (hj : j < 12) (hfo : foM mpg x 12 = nI j) : Met l yM_remake wM_remake ({ frames := 1, cells := 0, slots := 0, locals := 23 }) (va_Pc [.ref h, .int x] (fun U => U.heap.size = sz ∧ tk_E dC dI ka U ∧ va_P (dC, dI) clB (mw h ad ka mth mnw mcp mcb mcv mcl mbl mpl mfm mto mfs mls mpg mpn mus mdi mst mbs mhd men mfl mrd mwn mlf) U.heap ∧ va_D (fun _ => True) (mw h ad ka mth mnw mcp mcb mcv mcl mbl mpl mfm mto mfs mls mpg mpn mus mdi mst mbs mhd men mfl mrd mwn mlf))) (va_Qi (fun (r : Int32) (_ : Unit) => r = 0) (fun _ t => va_P (dC, dI) clB (mw h ad ka 2 mnw mcp mcb mcv mcl mbl mpl mfm mto mfs mls mpg mpn mus mdi mst mbs mhd men mfl mrd mwn mlf) t.heap) (va_A (mw h ad ka mth mnw mcp mcb mcv mcl mbl mpl mfm mto mfs mls mpg mpn mus mdi mst mbs mhd men mfl mrd mwn mlf) sz)) 0 0 (va_A (mw h ad ka mth mnw mcp mcb mcv mcl mbl mpl mfm mto mfs mls mpg mpn mus mdi mst mbs mhd men mfl mrd mwn mlf) sz) := by
  refine Met.ofW (cc := cM_remake) (maxL := 3) (ret := (some .int)) (by decide) rfl ?_
  intro p e s m args below meth c s₁ B hml hv
  obtain ⟨rfl, hsz, hE, hP, hD0⟩ := hv
  have hx := B.exec
  have hb := B.bytes
  have hr := B.returns
  have hts := atoms_spec (ws := wM_remake) B.pre
  have hq : ∀ w ∈ lwg, w.before _ s = true := fun w h => hts w (List.mem_cons_of_mem _ h)
  have hown : s.vm.findClass RM = some m.cls := findClass_of_methodNamed B.named
  have hlocks := B.notSynchronized
  have hK := hE.1
  have hN := hE.2
  subst hsz
  have hD := hD0.self (sz := s.heap.size)
  generalize hAe : va_A (mw h ad ka mth mnw mcp mcb mcv mcl mbl mpl mfm mto mfs mls mpg mpn mus mdi mst mbs mhd men mfl mrd mwn mlf) s.heap.size = A at hD ⊢
  have hA : ∀ q : Nat, s.heap.size ≤ q → A q := fun q h => by rw [← hAe]; exact Or.inr h
  have hS : va_S A s.heap s.heap [] := va_S.rf
  have hDw := hD
  have hP : va_P (dC, dI) clB (mw h ad ka mth mnw mcp mcb mcv mcl mbl mpl mfm mto mfs mls mpg mpn mus mdi mst mbs mhd men mfl mrd mwn mlf) s.heap := hP
  have hl := lv_entry ([.ref h, .int x]) (n := 3) (Nat.le_of_ble_eq_true rfl)
  rw [lg_entry_eq]
  generalize (lg_sl ([.ref h, .int x]) ++ List.replicate (3 - (lg_sl ([.ref h, .int x])).length) Slot.unset).toArray = ls at hl ⊢
  have hl : lv_has ls 3 [(0, .ref h), (1, .int x)] := hl
  refine lv_aload_n hx hb dM_remake_0 rfl (lv_at hl 0 rfl) ?_
  refine lv_iconst (v := 0) hx hb dM_remake_1 (by decide) ?_
  refine va_put (D := (dC, dI)) (ci := 4) (v := .int 0) (ty := .int) (C := RM) (T := TM) (N := 24) hx hb hts (inC inM) tyM tyM_ok nmM hown hK hP hD hS 0 rfl rfl 0 (by decide) (hq _ wi_466) (fun _ h9 => h9) rfl (by decide +kernel) rfl rfl (Nat.le_of_ble_eq_true rfl) dM_remake_2 (fun H locs hP hD hS => ?_)
  have hP : va_P (dC, dI) clB (mw h ad ka 0 mnw mcp mcb mcv mcl mbl mpl mfm mto mfs mls mpg mpn mus mdi mst mbs mhd men mfl mrd mwn mlf) H := hP
  have hD : va_D A (mw h ad ka 0 mnw mcp mcb mcv mcl mbl mpl mfm mto mfs mls mpg mpn mus mdi mst mbs mhd men mfl mrd mwn mlf) := mw_D hDw
  refine lv_iload_n hx hb dM_remake_5 rfl (lv_at hl 1 rfl) ?_
  refine vp_callSi (va_Run.run (va_runS (As := [.int x]) (rest := []) ⟨hx, hb, hml, hown, hts⟩ (c_M_isPage l dC dI ka x) (cwS 1 hts (tw_S wi_569 wi_570 wi_28 wi_571) rfl rfl rfl (by decide +kernel) ⟨Nat.le_of_ble_eq_true rfl, Nat.le_of_ble_eq_true rfl⟩) ⟨fun a U g mk q => ⟨q.1, tk_E.call q.2.1, q.2.2⟩, fun U hU hW => ⟨rfl, tk_E.warm hW hE, by rw [hU]; exact (fun _ _ h => nomatch h)⟩⟩ rfl rfl hl.1 rfl (lv_room (Nat.le_of_ble_eq_true rfl)) dM_remake_6 ⟨Nat.zero_le _, Nat.zero_le _⟩)) (fun r_1 er_1 => ?_)
  replace er_1 := er_1.trans (tk_is1 (N := 192) ex hn (by decide))
  subst er_1
  refine lv_if_ne (tgt := 18) hx hb dM_remake_9 (by decide) (fun c_2 => ?_) (fun c_2 => ?_)
  · refine lv_aload_n hx hb dM_remake_18 rfl (lv_at hl 0 rfl) ?_
    refine lv_iload_n hx hb dM_remake_19 rfl (lv_at hl 1 rfl) ?_
    refine vp_callSi (va_Run.run (va_runV (As := [.int x]) (rest := []) ⟨hx, hb, hml, hown, hts⟩ (c_M_frameOf l dC dI ka h ad 0 mnw mcp mcb mcv mcl mbl mpl mfm mto mfs mls mpg mpn mus mdi mst mbs mhd men mfl mrd mwn mlf x ) (cwV 1 hts (tw_V wi_588 wi_590 wi_16 wi_28 wi_591) rfl rfl rfl (by decide +kernel) ⟨Nat.le_of_ble_eq_true rfl, Nat.le_of_ble_eq_true rfl⟩) ⟨fun a U g mk q => ⟨q.1, tk_E.call q.2.1, q.2.2⟩, va_recv hK hP (ci := 4) (q0 := 0) rfl rfl, fun U hU hW => ⟨rfl, tk_E.warm hW hE, by rw [hU]; exact hP⟩⟩ rfl rfl hl.1 rfl (lv_room (Nat.le_of_ble_eq_true rfl)) dM_remake_20 ⟨Nat.zero_le _, Nat.zero_le _⟩)) (fun r_3 er_3 => ?_)
    replace er_3 := er_3.trans (hfo)
    subst er_3
    refine lv_if_ge (tgt := 33) hx hb dM_remake_23 (by decide) (fun c_4 => ?_) (fun c_4 => ?_)
    · refine lv_aload_n hx hb dM_remake_33 rfl (lv_at hl 0 rfl) ?_
      refine lv_iconst (v := 2) hx hb dM_remake_34 (by decide) ?_
      have hFc := tk_freeW hD hS hA
      refine va_calli (va_runV (As := [.int 2]) (rest := []) ⟨hx, hb, hml, hown, hts⟩ (c_M_fails l dC dI ka _ h ad 0 mnw mcp mcb mcv mcl mbl mpl mfm mto mfs mls mpg mpn mus mdi mst mbs mhd men mfl mrd mwn mlf 2 ) (cwV 1 hts (tw_V wi_584 wi_586 wi_15 wi_28 wi_587) rfl rfl rfl (by decide +kernel) ⟨Nat.le_of_ble_eq_true rfl, Nat.le_of_ble_eq_true rfl⟩) ⟨fun a U g mk q => ⟨q.1, q.2.1, tk_E.call q.2.2.1, q.2.2.2⟩, va_recv hK hP (ci := 4) (q0 := 0) rfl rfl, fun U hU hW => ⟨rfl, by rw [hU], tk_E.warm hW hE, by rw [hU]; exact hP, hD.weaken (fun _ _ _ _ => trivial)⟩⟩ rfl rfl hl.1 rfl (lv_room (Nat.le_of_ble_eq_true rfl)) dM_remake_35 ⟨Nat.zero_le _, Nat.zero_le _⟩) hS (fun q _ h => hFc q h) hFc (fun r_6 u_5 t H1 locs ht hvm hw hB hz1 hk1 hS => ?_)
      have hB : va_P (dC, dI) clB (mw h ad ka 2 mnw mcp mcb mcv mcl mbl mpl mfm mto mfs mls mpg mpn mus mdi mst mbs mhd men mfl mrd mwn mlf) H1 := by rw [← ht]; exact hB
      obtain ⟨hP, hD⟩ := (⟨hB, mw_D hDw⟩ : va_P (dC, dI) clB (mw h ad ka 2 mnw mcp mcb mcv mcl mbl mpl mfm mto mfs mls mpg mpn mus mdi mst mbs mhd men mfl mrd mwn mlf) H1 ∧ va_D A (mw h ad ka 2 mnw mcp mcb mcv mcl mbl mpl mfm mto mfs mls mpg mpn mus mdi mst mbs mhd men mfl mrd mwn mlf))
      generalize H1 = H at hP hS ⊢
      have hP : va_P (dC, dI) clB (mw h ad ka 2 mnw mcp mcb mcv mcl mbl mpl mfm mto mfs mls mpg mpn mus mdi mst mbs mhd men mfl mrd mwn mlf) H := hP
      have hD : va_D A (mw h ad ka 2 mnw mcp mcb mcv mcl mbl mpl mfm mto mfs mls mpg mpn mus mdi mst mbs mhd men mfl mrd mwn mlf) := mw_D hDw
      subst hw
      exact W.iret (v := 0) hx hb hr (fun t ht hW => ⟨⟨0, (), rfl, rfl, by show va_P _ _ _ t.heap; rw [ht]; exact hP⟩, hS.F ht⟩) hS.2.2 dM_remake_38
    · exact absurd (nI_pos' (n := j) (by omega)) c_4
  · exact absurd c_2 (by decide)

set_option maxHeartbeats 4000000 in
set_option maxRecDepth 100000 in
theorem c_M_remake_a0 (l : Launch) (dC : Nat → ClassId) (dI : Nat → Nat → Nat) (ka : Nat → ClassId) (sz : Nat) (h : Nat) (ad : Nat → Nat) (mth mnw : Int32) (mcp mcb mcv mcl mbl mpl mfm mto mfs mls mpg mpn mus mdi mst mbs : Nat → Int32) (mhd men mfl mrd mwn mlf : Int32) (x : Int32) (n : Nat) (ex : x = nI n) (hn : n < 192) (hfo : foM mpg x 12 = -1) (hap : apM mpg mpn 12 = 1) : Met l yM_remake wM_remake ({ frames := 1, cells := 0, slots := 0, locals := 23 }) (va_Pc [.ref h, .int x] (fun U => U.heap.size = sz ∧ tk_E dC dI ka U ∧ va_P (dC, dI) clB (mw h ad ka mth mnw mcp mcb mcv mcl mbl mpl mfm mto mfs mls mpg mpn mus mdi mst mbs mhd men mfl mrd mwn mlf) U.heap ∧ va_D (fun _ => True) (mw h ad ka mth mnw mcp mcb mcv mcl mbl mpl mfm mto mfs mls mpg mpn mus mdi mst mbs mhd men mfl mrd mwn mlf))) (va_Qi (fun (r : Int32) (_ : Unit) => r = 0) (fun _ t => va_P (dC, dI) clB (mw h ad ka 2 mnw mcp mcb mcv mcl mbl mpl mfm mto mfs mls mpg mpn mus mdi mst mbs mhd men mfl mrd mwn mlf) t.heap) (va_A (mw h ad ka mth mnw mcp mcb mcv mcl mbl mpl mfm mto mfs mls mpg mpn mus mdi mst mbs mhd men mfl mrd mwn mlf) sz)) 0 0 (va_A (mw h ad ka mth mnw mcp mcb mcv mcl mbl mpl mfm mto mfs mls mpg mpn mus mdi mst mbs mhd men mfl mrd mwn mlf) sz) := by
  refine Met.ofW (cc := cM_remake) (maxL := 3) (ret := (some .int)) (by decide) rfl ?_
  intro p e s m args below meth c s₁ B hml hv
  obtain ⟨rfl, hsz, hE, hP, hD0⟩ := hv
  have hx := B.exec
  have hb := B.bytes
  have hr := B.returns
  have hts := atoms_spec (ws := wM_remake) B.pre
  have hq : ∀ w ∈ lwg, w.before _ s = true := fun w h => hts w (List.mem_cons_of_mem _ h)
  have hown : s.vm.findClass RM = some m.cls := findClass_of_methodNamed B.named
  have hlocks := B.notSynchronized
  have hK := hE.1
  have hN := hE.2
  subst hsz
  have hD := hD0.self (sz := s.heap.size)
  generalize hAe : va_A (mw h ad ka mth mnw mcp mcb mcv mcl mbl mpl mfm mto mfs mls mpg mpn mus mdi mst mbs mhd men mfl mrd mwn mlf) s.heap.size = A at hD ⊢
  have hA : ∀ q : Nat, s.heap.size ≤ q → A q := fun q h => by rw [← hAe]; exact Or.inr h
  have hS : va_S A s.heap s.heap [] := va_S.rf
  have hDw := hD
  have hP : va_P (dC, dI) clB (mw h ad ka mth mnw mcp mcb mcv mcl mbl mpl mfm mto mfs mls mpg mpn mus mdi mst mbs mhd men mfl mrd mwn mlf) s.heap := hP
  have hl := lv_entry ([.ref h, .int x]) (n := 3) (Nat.le_of_ble_eq_true rfl)
  rw [lg_entry_eq]
  generalize (lg_sl ([.ref h, .int x]) ++ List.replicate (3 - (lg_sl ([.ref h, .int x])).length) Slot.unset).toArray = ls at hl ⊢
  have hl : lv_has ls 3 [(0, .ref h), (1, .int x)] := hl
  refine lv_aload_n hx hb dM_remake_0 rfl (lv_at hl 0 rfl) ?_
  refine lv_iconst (v := 0) hx hb dM_remake_1 (by decide) ?_
  refine va_put (D := (dC, dI)) (ci := 4) (v := .int 0) (ty := .int) (C := RM) (T := TM) (N := 24) hx hb hts (inC inM) tyM tyM_ok nmM hown hK hP hD hS 0 rfl rfl 0 (by decide) (hq _ wi_466) (fun _ h9 => h9) rfl (by decide +kernel) rfl rfl (Nat.le_of_ble_eq_true rfl) dM_remake_2 (fun H locs hP hD hS => ?_)
  have hP : va_P (dC, dI) clB (mw h ad ka 0 mnw mcp mcb mcv mcl mbl mpl mfm mto mfs mls mpg mpn mus mdi mst mbs mhd men mfl mrd mwn mlf) H := hP
  have hD : va_D A (mw h ad ka 0 mnw mcp mcb mcv mcl mbl mpl mfm mto mfs mls mpg mpn mus mdi mst mbs mhd men mfl mrd mwn mlf) := mw_D hDw
  refine lv_iload_n hx hb dM_remake_5 rfl (lv_at hl 1 rfl) ?_
  refine vp_callSi (va_Run.run (va_runS (As := [.int x]) (rest := []) ⟨hx, hb, hml, hown, hts⟩ (c_M_isPage l dC dI ka x) (cwS 1 hts (tw_S wi_569 wi_570 wi_28 wi_571) rfl rfl rfl (by decide +kernel) ⟨Nat.le_of_ble_eq_true rfl, Nat.le_of_ble_eq_true rfl⟩) ⟨fun a U g mk q => ⟨q.1, tk_E.call q.2.1, q.2.2⟩, fun U hU hW => ⟨rfl, tk_E.warm hW hE, by rw [hU]; exact (fun _ _ h => nomatch h)⟩⟩ rfl rfl hl.1 rfl (lv_room (Nat.le_of_ble_eq_true rfl)) dM_remake_6 ⟨Nat.zero_le _, Nat.zero_le _⟩)) (fun r_1 er_1 => ?_)
  replace er_1 := er_1.trans (tk_is1 (N := 192) ex hn (by decide))
  subst er_1
  refine lv_if_ne (tgt := 18) hx hb dM_remake_9 (by decide) (fun c_2 => ?_) (fun c_2 => ?_)
  · refine lv_aload_n hx hb dM_remake_18 rfl (lv_at hl 0 rfl) ?_
    refine lv_iload_n hx hb dM_remake_19 rfl (lv_at hl 1 rfl) ?_
    refine vp_callSi (va_Run.run (va_runV (As := [.int x]) (rest := []) ⟨hx, hb, hml, hown, hts⟩ (c_M_frameOf l dC dI ka h ad 0 mnw mcp mcb mcv mcl mbl mpl mfm mto mfs mls mpg mpn mus mdi mst mbs mhd men mfl mrd mwn mlf x ) (cwV 1 hts (tw_V wi_588 wi_590 wi_16 wi_28 wi_591) rfl rfl rfl (by decide +kernel) ⟨Nat.le_of_ble_eq_true rfl, Nat.le_of_ble_eq_true rfl⟩) ⟨fun a U g mk q => ⟨q.1, tk_E.call q.2.1, q.2.2⟩, va_recv hK hP (ci := 4) (q0 := 0) rfl rfl, fun U hU hW => ⟨rfl, tk_E.warm hW hE, by rw [hU]; exact hP⟩⟩ rfl rfl hl.1 rfl (lv_room (Nat.le_of_ble_eq_true rfl)) dM_remake_20 ⟨Nat.zero_le _, Nat.zero_le _⟩)) (fun r_3 er_3 => ?_)
    replace er_3 := er_3.trans (hfo)
    subst er_3
    refine lv_if_ge (tgt := 33) hx hb dM_remake_23 (by decide) (fun c_4 => ?_) (fun c_4 => ?_)
    · exact absurd c_4 (by decide)
    · refine lv_aload_n hx hb dM_remake_26 rfl (lv_at hl 0 rfl) ?_
      refine vp_callSi (va_Run.run (va_runV (As := []) (rest := []) ⟨hx, hb, hml, hown, hts⟩ (c_M_allPinned l dC dI ka h ad 0 mnw mcp mcb mcv mcl mbl mpl mfm mto mfs mls mpg mpn mus mdi mst mbs mhd men mfl mrd mwn mlf ) (cwV 0 hts (tw_V wi_592 wi_594 wi_17 wi_28 wi_595) rfl rfl rfl (by decide +kernel) ⟨Nat.le_of_ble_eq_true rfl, Nat.le_of_ble_eq_true rfl⟩) ⟨fun a U g mk q => ⟨q.1, tk_E.call q.2.1, q.2.2⟩, va_recv hK hP (ci := 4) (q0 := 0) rfl rfl, fun U hU hW => ⟨rfl, tk_E.warm hW hE, by rw [hU]; exact hP⟩⟩ rfl rfl hl.1 rfl (lv_room (Nat.le_of_ble_eq_true rfl)) dM_remake_27 ⟨Nat.zero_le _, Nat.zero_le _⟩)) (fun r_5 er_5 => ?_)
      replace er_5 := er_5.trans (hap)
      subst er_5
      refine lv_if_eq (tgt := 39) hx hb dM_remake_30 (by decide) (fun c_6 => ?_) (fun c_6 => ?_)
      · exact absurd c_6 (by decide)
      · refine lv_aload_n hx hb dM_remake_33 rfl (lv_at hl 0 rfl) ?_
        refine lv_iconst (v := 2) hx hb dM_remake_34 (by decide) ?_
        have hFc := tk_freeW hD hS hA
        refine va_calli (va_runV (As := [.int 2]) (rest := []) ⟨hx, hb, hml, hown, hts⟩ (c_M_fails l dC dI ka _ h ad 0 mnw mcp mcb mcv mcl mbl mpl mfm mto mfs mls mpg mpn mus mdi mst mbs mhd men mfl mrd mwn mlf 2 ) (cwV 1 hts (tw_V wi_584 wi_586 wi_15 wi_28 wi_587) rfl rfl rfl (by decide +kernel) ⟨Nat.le_of_ble_eq_true rfl, Nat.le_of_ble_eq_true rfl⟩) ⟨fun a U g mk q => ⟨q.1, q.2.1, tk_E.call q.2.2.1, q.2.2.2⟩, va_recv hK hP (ci := 4) (q0 := 0) rfl rfl, fun U hU hW => ⟨rfl, by rw [hU], tk_E.warm hW hE, by rw [hU]; exact hP, hD.weaken (fun _ _ _ _ => trivial)⟩⟩ rfl rfl hl.1 rfl (lv_room (Nat.le_of_ble_eq_true rfl)) dM_remake_35 ⟨Nat.zero_le _, Nat.zero_le _⟩) hS (fun q _ h => hFc q h) hFc (fun r_8 u_7 t H1 locs ht hvm hw hB hz1 hk1 hS => ?_)
        have hB : va_P (dC, dI) clB (mw h ad ka 2 mnw mcp mcb mcv mcl mbl mpl mfm mto mfs mls mpg mpn mus mdi mst mbs mhd men mfl mrd mwn mlf) H1 := by rw [← ht]; exact hB
        obtain ⟨hP, hD⟩ := (⟨hB, mw_D hDw⟩ : va_P (dC, dI) clB (mw h ad ka 2 mnw mcp mcb mcv mcl mbl mpl mfm mto mfs mls mpg mpn mus mdi mst mbs mhd men mfl mrd mwn mlf) H1 ∧ va_D A (mw h ad ka 2 mnw mcp mcb mcv mcl mbl mpl mfm mto mfs mls mpg mpn mus mdi mst mbs mhd men mfl mrd mwn mlf))
        generalize H1 = H at hP hS ⊢
        have hP : va_P (dC, dI) clB (mw h ad ka 2 mnw mcp mcb mcv mcl mbl mpl mfm mto mfs mls mpg mpn mus mdi mst mbs mhd men mfl mrd mwn mlf) H := hP
        have hD : va_D A (mw h ad ka 2 mnw mcp mcb mcv mcl mbl mpl mfm mto mfs mls mpg mpn mus mdi mst mbs mhd men mfl mrd mwn mlf) := mw_D hDw
        subst hw
        exact W.iret (v := 0) hx hb hr (fun t ht hW => ⟨⟨0, (), rfl, rfl, by show va_P _ _ _ t.heap; rw [ht]; exact hP⟩, hS.F ht⟩) hS.2.2 dM_remake_38
  · exact absurd c_2 (by decide)

set_option maxHeartbeats 4000000 in
set_option maxRecDepth 100000 in
theorem c_M_remake_e (l : Launch) (dC : Nat → ClassId) (dI : Nat → Nat → Nat) (ka : Nat → ClassId) (sz : Nat) (h : Nat) (ad : Nat → Nat) (mth mnw : Int32) (mcp mcb mcv mcl mbl mpl mfm mto mfs mls mpg mpn mus mdi mst mbs : Nat → Int32) (mhd men mfl mrd mwn mlf : Int32) (x : Int32) (n : Nat) (f0 : Nat) (ex : x = nI n) (hn : n < 192) (hfo : foM mpg x 12 = -1) (hap : apM mpg mpn 12 = 0) (hf0 : f0 < 12) (hfe : mpg f0 < 0) (hfl : ∀ j, j < f0 → ¬ mpg j < 0) : Met l yM_remake wM_remake ({ frames := 1, cells := 0, slots := 0, locals := 23 }) (va_Pc [.ref h, .int x] (fun U => U.heap.size = sz ∧ tk_E dC dI ka U ∧ va_P (dC, dI) clB (mw h ad ka mth mnw mcp mcb mcv mcl mbl mpl mfm mto mfs mls mpg mpn mus mdi mst mbs mhd men mfl mrd mwn mlf) U.heap ∧ va_D (fun _ => True) (mw h ad ka mth mnw mcp mcb mcv mcl mbl mpl mfm mto mfs mls mpg mpn mus mdi mst mbs mhd men mfl mrd mwn mlf))) (va_Qi (fun (r : Int32) (_ : Unit) => r = nI f0) (fun _ t => va_P (dC, dI) clB (mw h ad ka 0 mnw mcp mcb mcv mcl mbl mpl mfm mto mfs mls (upd mpg f0 x) (upd mpn f0 1) (upd mus f0 1) (upd mdi f0 0) (upd mst f0 (mfs n)) (upd mbs f0 mnw) mhd men mfl mrd mwn mlf) t.heap) (va_A (mw h ad ka mth mnw mcp mcb mcv mcl mbl mpl mfm mto mfs mls mpg mpn mus mdi mst mbs mhd men mfl mrd mwn mlf) sz)) 0 0 (va_A (mw h ad ka mth mnw mcp mcb mcv mcl mbl mpl mfm mto mfs mls mpg mpn mus mdi mst mbs mhd men mfl mrd mwn mlf) sz) := by
  refine Met.ofW (cc := cM_remake) (maxL := 3) (ret := (some .int)) (by decide) rfl ?_
  intro p e s m args below meth c s₁ B hml hv
  obtain ⟨rfl, hsz, hE, hP, hD0⟩ := hv
  have hx := B.exec
  have hb := B.bytes
  have hr := B.returns
  have hts := atoms_spec (ws := wM_remake) B.pre
  have hq : ∀ w ∈ lwg, w.before _ s = true := fun w h => hts w (List.mem_cons_of_mem _ h)
  have hown : s.vm.findClass RM = some m.cls := findClass_of_methodNamed B.named
  have hlocks := B.notSynchronized
  have hK := hE.1
  have hN := hE.2
  subst hsz
  have hD := hD0.self (sz := s.heap.size)
  generalize hAe : va_A (mw h ad ka mth mnw mcp mcb mcv mcl mbl mpl mfm mto mfs mls mpg mpn mus mdi mst mbs mhd men mfl mrd mwn mlf) s.heap.size = A at hD ⊢
  have hA : ∀ q : Nat, s.heap.size ≤ q → A q := fun q h => by rw [← hAe]; exact Or.inr h
  have hS : va_S A s.heap s.heap [] := va_S.rf
  have hDw := hD
  have hP : va_P (dC, dI) clB (mw h ad ka mth mnw mcp mcb mcv mcl mbl mpl mfm mto mfs mls mpg mpn mus mdi mst mbs mhd men mfl mrd mwn mlf) s.heap := hP
  have hl := lv_entry ([.ref h, .int x]) (n := 3) (Nat.le_of_ble_eq_true rfl)
  rw [lg_entry_eq]
  generalize (lg_sl ([.ref h, .int x]) ++ List.replicate (3 - (lg_sl ([.ref h, .int x])).length) Slot.unset).toArray = ls at hl ⊢
  have hl : lv_has ls 3 [(0, .ref h), (1, .int x)] := hl
  refine lv_aload_n hx hb dM_remake_0 rfl (lv_at hl 0 rfl) ?_
  refine lv_iconst (v := 0) hx hb dM_remake_1 (by decide) ?_
  refine va_put (D := (dC, dI)) (ci := 4) (v := .int 0) (ty := .int) (C := RM) (T := TM) (N := 24) hx hb hts (inC inM) tyM tyM_ok nmM hown hK hP hD hS 0 rfl rfl 0 (by decide) (hq _ wi_466) (fun _ h9 => h9) rfl (by decide +kernel) rfl rfl (Nat.le_of_ble_eq_true rfl) dM_remake_2 (fun H locs hP hD hS => ?_)
  have hP : va_P (dC, dI) clB (mw h ad ka 0 mnw mcp mcb mcv mcl mbl mpl mfm mto mfs mls mpg mpn mus mdi mst mbs mhd men mfl mrd mwn mlf) H := hP
  have hD : va_D A (mw h ad ka 0 mnw mcp mcb mcv mcl mbl mpl mfm mto mfs mls mpg mpn mus mdi mst mbs mhd men mfl mrd mwn mlf) := mw_D hDw
  refine lv_iload_n hx hb dM_remake_5 rfl (lv_at hl 1 rfl) ?_
  refine vp_callSi (va_Run.run (va_runS (As := [.int x]) (rest := []) ⟨hx, hb, hml, hown, hts⟩ (c_M_isPage l dC dI ka x) (cwS 1 hts (tw_S wi_569 wi_570 wi_28 wi_571) rfl rfl rfl (by decide +kernel) ⟨Nat.le_of_ble_eq_true rfl, Nat.le_of_ble_eq_true rfl⟩) ⟨fun a U g mk q => ⟨q.1, tk_E.call q.2.1, q.2.2⟩, fun U hU hW => ⟨rfl, tk_E.warm hW hE, by rw [hU]; exact (fun _ _ h => nomatch h)⟩⟩ rfl rfl hl.1 rfl (lv_room (Nat.le_of_ble_eq_true rfl)) dM_remake_6 ⟨Nat.zero_le _, Nat.zero_le _⟩)) (fun r_1 er_1 => ?_)
  replace er_1 := er_1.trans (tk_is1 (N := 192) ex hn (by decide))
  subst er_1
  refine lv_if_ne (tgt := 18) hx hb dM_remake_9 (by decide) (fun c_2 => ?_) (fun c_2 => ?_)
  · refine lv_aload_n hx hb dM_remake_18 rfl (lv_at hl 0 rfl) ?_
    refine lv_iload_n hx hb dM_remake_19 rfl (lv_at hl 1 rfl) ?_
    refine vp_callSi (va_Run.run (va_runV (As := [.int x]) (rest := []) ⟨hx, hb, hml, hown, hts⟩ (c_M_frameOf l dC dI ka h ad 0 mnw mcp mcb mcv mcl mbl mpl mfm mto mfs mls mpg mpn mus mdi mst mbs mhd men mfl mrd mwn mlf x ) (cwV 1 hts (tw_V wi_588 wi_590 wi_16 wi_28 wi_591) rfl rfl rfl (by decide +kernel) ⟨Nat.le_of_ble_eq_true rfl, Nat.le_of_ble_eq_true rfl⟩) ⟨fun a U g mk q => ⟨q.1, tk_E.call q.2.1, q.2.2⟩, va_recv hK hP (ci := 4) (q0 := 0) rfl rfl, fun U hU hW => ⟨rfl, tk_E.warm hW hE, by rw [hU]; exact hP⟩⟩ rfl rfl hl.1 rfl (lv_room (Nat.le_of_ble_eq_true rfl)) dM_remake_20 ⟨Nat.zero_le _, Nat.zero_le _⟩)) (fun r_3 er_3 => ?_)
    replace er_3 := er_3.trans (hfo)
    subst er_3
    refine lv_if_ge (tgt := 33) hx hb dM_remake_23 (by decide) (fun c_4 => ?_) (fun c_4 => ?_)
    · exact absurd c_4 (by decide)
    · refine lv_aload_n hx hb dM_remake_26 rfl (lv_at hl 0 rfl) ?_
      refine vp_callSi (va_Run.run (va_runV (As := []) (rest := []) ⟨hx, hb, hml, hown, hts⟩ (c_M_allPinned l dC dI ka h ad 0 mnw mcp mcb mcv mcl mbl mpl mfm mto mfs mls mpg mpn mus mdi mst mbs mhd men mfl mrd mwn mlf ) (cwV 0 hts (tw_V wi_592 wi_594 wi_17 wi_28 wi_595) rfl rfl rfl (by decide +kernel) ⟨Nat.le_of_ble_eq_true rfl, Nat.le_of_ble_eq_true rfl⟩) ⟨fun a U g mk q => ⟨q.1, tk_E.call q.2.1, q.2.2⟩, va_recv hK hP (ci := 4) (q0 := 0) rfl rfl, fun U hU hW => ⟨rfl, tk_E.warm hW hE, by rw [hU]; exact hP⟩⟩ rfl rfl hl.1 rfl (lv_room (Nat.le_of_ble_eq_true rfl)) dM_remake_27 ⟨Nat.zero_le _, Nat.zero_le _⟩)) (fun r_5 er_5 => ?_)
      replace er_5 := er_5.trans (hap)
      subst er_5
      refine lv_if_eq (tgt := 39) hx hb dM_remake_30 (by decide) (fun c_6 => ?_) (fun c_6 => ?_)
      · refine lv_aload_n hx hb dM_remake_39 rfl (lv_at hl 0 rfl) ?_
        have hFc := tk_freeW hD hS hA
        refine va_calli (va_runV (As := []) (rest := []) ⟨hx, hb, hml, hown, hts⟩ (c_M_found_e l dC dI ka _ h ad 0 mnw mcp mcb mcv mcl mbl mpl mfm mto mfs mls mpg mpn mus mdi mst mbs mhd men mfl mrd mwn mlf f0 hf0 hfe hfl) (cwV 0 hts (tw_V wi_596 wi_598 wi_18 wi_28 wi_599) rfl rfl rfl (by decide +kernel) ⟨Nat.le_of_ble_eq_true rfl, Nat.le_of_ble_eq_true rfl⟩) ⟨fun a U g mk q => ⟨q.1, q.2.1, tk_E.call q.2.2.1, q.2.2.2⟩, va_recv hK hP (ci := 4) (q0 := 0) rfl rfl, fun U hU hW => ⟨rfl, by rw [hU], tk_E.warm hW hE, by rw [hU]; exact hP, hD.weaken (fun _ _ _ _ => trivial)⟩⟩ rfl rfl hl.1 rfl (lv_room (Nat.le_of_ble_eq_true rfl)) dM_remake_40 ⟨Nat.zero_le _, Nat.zero_le _⟩) hS (fun q _ h => hFc q h) hFc (fun r_8 u_7 t H1 locs ht hvm hw hB hz1 hk1 hS => ?_)
        have hB : va_P (dC, dI) clB (mw h ad ka 0 mnw mcp mcb mcv mcl mbl mpl mfm mto mfs mls mpg mpn mus mdi mst mbs mhd men mfl mrd mwn mlf) H1 := by rw [← ht]; exact hB
        obtain ⟨hP, hD⟩ := (⟨hB, mw_D hDw⟩ : va_P (dC, dI) clB (mw h ad ka 0 mnw mcp mcb mcv mcl mbl mpl mfm mto mfs mls mpg mpn mus mdi mst mbs mhd men mfl mrd mwn mlf) H1 ∧ va_D A (mw h ad ka 0 mnw mcp mcb mcv mcl mbl mpl mfm mto mfs mls mpg mpn mus mdi mst mbs mhd men mfl mrd mwn mlf))
        generalize H1 = H at hP hS ⊢
        have hP : va_P (dC, dI) clB (mw h ad ka 0 mnw mcp mcb mcv mcl mbl mpl mfm mto mfs mls mpg mpn mus mdi mst mbs mhd men mfl mrd mwn mlf) H := hP
        have hD : va_D A (mw h ad ka 0 mnw mcp mcb mcv mcl mbl mpl mfm mto mfs mls mpg mpn mus mdi mst mbs mhd men mfl mrd mwn mlf) := mw_D hDw
        subst hw
        refine lv_istore_n (lv' := [(2, .int (nI f0)), (0, .ref h), (1, .int x)]) hx hb dM_remake_43 rfl hl (by decide) rfl (fun ls hl => ?_)
        refine lv_iload_n hx hb dM_remake_44 rfl (lv_at hl 0 rfl) ?_
        refine lv_if_ge (tgt := 54) hx hb dM_remake_45 (by decide) (fun c_9 => ?_) (fun c_9 => ?_)
        · refine lv_aload_n hx hb dM_remake_54 rfl (lv_at hl 1 rfl) ?_
          refine lv_iload_n hx hb dM_remake_55 rfl (lv_at hl 0 rfl) ?_
          refine lv_iload_n hx hb dM_remake_56 rfl (lv_at hl 2 rfl) ?_
          refine lv_aload_n hx hb dM_remake_57 rfl (lv_at hl 1 rfl) ?_
          refine va_get (D := (dC, dI)) (ci := 4) (v := .int mnw) (C := RM) (T := TM) (N := 24) hx hb hts (inC inM) hown hK hP 0 rfl rfl 1 (by decide) (hq _ wi_467) (fun _ h9 => h9) rfl dM_remake_58 ?_
          have hFc := tk_freeW hD hS hA
          refine va_callv (va_runV (As := [.int (nI f0), .int x, .int mnw]) (rest := []) ⟨hx, hb, hml, hown, hts⟩ (c_M_fill l dC dI ka _ h ad 0 mnw mcp mcb mcv mcl mbl mpl mfm mto mfs mls mpg mpn mus mdi mst mbs mhd men mfl mrd mwn mlf (nI f0) x mnw f0 n rfl hf0 ex hn) (cwV 3 hts (tw_V wi_609 wi_611 wi_21 wi_28 wi_612) rfl rfl rfl (by decide +kernel) ⟨Nat.le_of_ble_eq_true rfl, Nat.le_of_ble_eq_true rfl⟩) ⟨fun a U g mk q => ⟨q.1, q.2.1, tk_E.call q.2.2.1, q.2.2.2⟩, va_recv hK hP (ci := 4) (q0 := 0) rfl rfl, fun U hU hW => ⟨rfl, by rw [hU], tk_E.warm hW hE, by rw [hU]; exact hP, hD.weaken (fun _ _ _ _ => trivial)⟩⟩ rfl rfl hl.1 rfl (lv_room (Nat.le_of_ble_eq_true rfl)) dM_remake_61 ⟨Nat.zero_le _, Nat.zero_le _⟩) hS (fun q _ h => hFc q h) hFc (fun u_10 t H1 locs ht hvm hw hB hz1 hk1 hS => ?_)
          have hB : va_P (dC, dI) clB (mw h ad ka 0 mnw mcp mcb mcv mcl mbl mpl mfm mto mfs mls (upd mpg f0 x) (upd mpn f0 1) (upd mus f0 1) (upd mdi f0 0) (upd mst f0 (mfs n)) (upd mbs f0 mnw) mhd men mfl mrd mwn mlf) H1 := by rw [← ht]; exact hB
          obtain ⟨hP, hD⟩ := (⟨hB, mw_D hDw⟩ : va_P (dC, dI) clB (mw h ad ka 0 mnw mcp mcb mcv mcl mbl mpl mfm mto mfs mls (upd mpg f0 x) (upd mpn f0 1) (upd mus f0 1) (upd mdi f0 0) (upd mst f0 (mfs n)) (upd mbs f0 mnw) mhd men mfl mrd mwn mlf) H1 ∧ va_D A (mw h ad ka 0 mnw mcp mcb mcv mcl mbl mpl mfm mto mfs mls (upd mpg f0 x) (upd mpn f0 1) (upd mus f0 1) (upd mdi f0 0) (upd mst f0 (mfs n)) (upd mbs f0 mnw) mhd men mfl mrd mwn mlf))
          generalize H1 = H at hP hS ⊢
          have hP : va_P (dC, dI) clB (mw h ad ka 0 mnw mcp mcb mcv mcl mbl mpl mfm mto mfs mls (upd mpg f0 x) (upd mpn f0 1) (upd mus f0 1) (upd mdi f0 0) (upd mst f0 (mfs n)) (upd mbs f0 mnw) mhd men mfl mrd mwn mlf) H := hP
          have hD : va_D A (mw h ad ka 0 mnw mcp mcb mcv mcl mbl mpl mfm mto mfs mls (upd mpg f0 x) (upd mpn f0 1) (upd mus f0 1) (upd mdi f0 0) (upd mst f0 (mfs n)) (upd mbs f0 mnw) mhd men mfl mrd mwn mlf) := mw_D hDw
          refine lv_iload_n hx hb dM_remake_64 rfl (lv_at hl 0 rfl) ?_
          exact W.iret (v := (nI f0)) hx hb hr (fun t ht hW => ⟨⟨(nI f0), (), rfl, rfl, by show va_P _ _ _ t.heap; rw [ht]; exact hP⟩, hS.F ht⟩) hS.2.2 dM_remake_65
        · exact absurd (nI_pos' (n := f0) (by omega)) c_9
      · exact absurd c_6 (by decide)
  · exact absurd c_2 (by decide)

set_option maxHeartbeats 4000000 in
set_option maxRecDepth 100000 in
theorem c_M_remake_c (l : Launch) (dC : Nat → ClassId) (dI : Nat → Nat → Nat) (ka : Nat → ClassId) (sz : Nat) (h : Nat) (ad : Nat → Nat) (mth mnw : Int32) (mcp mcb mcv mcl mbl mpl mfm mto mfs mls mpg mpn mus mdi mst mbs : Nat → Int32) (men mfl mrd mwn mlf : Int32) (q : Nat) (x : Int32) (n : Nat) (f0 : Nat) (u1 : Nat → Int32) (ex : x = nI n) (hn : n < 192) (hfo : foM mpg x 12 = -1) (hap : apM mpg mpn 12 = 0) (hall : ∀ i, i < 12 → ¬ mpg i < 0) (hq0 : q < 12) (hf0 : f0 < 12) (hus0 : ∀ i, i < 12 → ¬ mus i < 0) (hHB : hbU mpn 48 (mus, q) = (u1, f0)) (htk : mpn f0 = 0 ∧ u1 f0 = 0) (hd0 : mdi f0 = 0) : Met l yM_remake wM_remake ({ frames := 1, cells := 0, slots := 0, locals := 23 }) (va_Pc [.ref h, .int x] (fun U => U.heap.size = sz ∧ tk_E dC dI ka U ∧ va_P (dC, dI) clB (mw h ad ka mth mnw mcp mcb mcv mcl mbl mpl mfm mto mfs mls mpg mpn mus mdi mst mbs (nI q) men mfl mrd mwn mlf) U.heap ∧ va_D (fun _ => True) (mw h ad ka mth mnw mcp mcb mcv mcl mbl mpl mfm mto mfs mls mpg mpn mus mdi mst mbs (nI q) men mfl mrd mwn mlf))) (va_Qi (fun (r : Int32) (_ : Unit) => r = nI f0) (fun _ t => va_P (dC, dI) clB (mw h ad ka 0 mnw mcp mcb mcv mcl mbl mpl mfm mto mfs mls (upd mpg f0 x) (upd mpn f0 1) (upd u1 f0 1) (upd mdi f0 0) (upd mst f0 (mfs n)) (upd mbs f0 mnw) (nI (nxt f0)) men mfl mrd mwn mlf) t.heap) (va_A (mw h ad ka mth mnw mcp mcb mcv mcl mbl mpl mfm mto mfs mls mpg mpn mus mdi mst mbs (nI q) men mfl mrd mwn mlf) sz)) 0 0 (va_A (mw h ad ka mth mnw mcp mcb mcv mcl mbl mpl mfm mto mfs mls mpg mpn mus mdi mst mbs (nI q) men mfl mrd mwn mlf) sz) := by
  refine Met.ofW (cc := cM_remake) (maxL := 3) (ret := (some .int)) (by decide) rfl ?_
  intro p e s m args below meth c s₁ B hml hv
  obtain ⟨rfl, hsz, hE, hP, hD0⟩ := hv
  have hx := B.exec
  have hb := B.bytes
  have hr := B.returns
  have hts := atoms_spec (ws := wM_remake) B.pre
  have hq : ∀ w ∈ lwg, w.before _ s = true := fun w h => hts w (List.mem_cons_of_mem _ h)
  have hown : s.vm.findClass RM = some m.cls := findClass_of_methodNamed B.named
  have hlocks := B.notSynchronized
  have hK := hE.1
  have hN := hE.2
  subst hsz
  have hD := hD0.self (sz := s.heap.size)
  generalize hAe : va_A (mw h ad ka mth mnw mcp mcb mcv mcl mbl mpl mfm mto mfs mls mpg mpn mus mdi mst mbs (nI q) men mfl mrd mwn mlf) s.heap.size = A at hD ⊢
  have hA : ∀ q : Nat, s.heap.size ≤ q → A q := fun q h => by rw [← hAe]; exact Or.inr h
  have hS : va_S A s.heap s.heap [] := va_S.rf
  have hDw := hD
  have hP : va_P (dC, dI) clB (mw h ad ka mth mnw mcp mcb mcv mcl mbl mpl mfm mto mfs mls mpg mpn mus mdi mst mbs (nI q) men mfl mrd mwn mlf) s.heap := hP
  have hl := lv_entry ([.ref h, .int x]) (n := 3) (Nat.le_of_ble_eq_true rfl)
  rw [lg_entry_eq]
  generalize (lg_sl ([.ref h, .int x]) ++ List.replicate (3 - (lg_sl ([.ref h, .int x])).length) Slot.unset).toArray = ls at hl ⊢
  have hl : lv_has ls 3 [(0, .ref h), (1, .int x)] := hl
  refine lv_aload_n hx hb dM_remake_0 rfl (lv_at hl 0 rfl) ?_
  refine lv_iconst (v := 0) hx hb dM_remake_1 (by decide) ?_
  refine va_put (D := (dC, dI)) (ci := 4) (v := .int 0) (ty := .int) (C := RM) (T := TM) (N := 24) hx hb hts (inC inM) tyM tyM_ok nmM hown hK hP hD hS 0 rfl rfl 0 (by decide) (hq _ wi_466) (fun _ h9 => h9) rfl (by decide +kernel) rfl rfl (Nat.le_of_ble_eq_true rfl) dM_remake_2 (fun H locs hP hD hS => ?_)
  have hP : va_P (dC, dI) clB (mw h ad ka 0 mnw mcp mcb mcv mcl mbl mpl mfm mto mfs mls mpg mpn mus mdi mst mbs (nI q) men mfl mrd mwn mlf) H := hP
  have hD : va_D A (mw h ad ka 0 mnw mcp mcb mcv mcl mbl mpl mfm mto mfs mls mpg mpn mus mdi mst mbs (nI q) men mfl mrd mwn mlf) := mw_D hDw
  refine lv_iload_n hx hb dM_remake_5 rfl (lv_at hl 1 rfl) ?_
  refine vp_callSi (va_Run.run (va_runS (As := [.int x]) (rest := []) ⟨hx, hb, hml, hown, hts⟩ (c_M_isPage l dC dI ka x) (cwS 1 hts (tw_S wi_569 wi_570 wi_28 wi_571) rfl rfl rfl (by decide +kernel) ⟨Nat.le_of_ble_eq_true rfl, Nat.le_of_ble_eq_true rfl⟩) ⟨fun a U g mk q => ⟨q.1, tk_E.call q.2.1, q.2.2⟩, fun U hU hW => ⟨rfl, tk_E.warm hW hE, by rw [hU]; exact (fun _ _ h => nomatch h)⟩⟩ rfl rfl hl.1 rfl (lv_room (Nat.le_of_ble_eq_true rfl)) dM_remake_6 ⟨Nat.zero_le _, Nat.zero_le _⟩)) (fun r_1 er_1 => ?_)
  replace er_1 := er_1.trans (tk_is1 (N := 192) ex hn (by decide))
  subst er_1
  refine lv_if_ne (tgt := 18) hx hb dM_remake_9 (by decide) (fun c_2 => ?_) (fun c_2 => ?_)
  · refine lv_aload_n hx hb dM_remake_18 rfl (lv_at hl 0 rfl) ?_
    refine lv_iload_n hx hb dM_remake_19 rfl (lv_at hl 1 rfl) ?_
    refine vp_callSi (va_Run.run (va_runV (As := [.int x]) (rest := []) ⟨hx, hb, hml, hown, hts⟩ (c_M_frameOf l dC dI ka h ad 0 mnw mcp mcb mcv mcl mbl mpl mfm mto mfs mls mpg mpn mus mdi mst mbs (nI q) men mfl mrd mwn mlf x ) (cwV 1 hts (tw_V wi_588 wi_590 wi_16 wi_28 wi_591) rfl rfl rfl (by decide +kernel) ⟨Nat.le_of_ble_eq_true rfl, Nat.le_of_ble_eq_true rfl⟩) ⟨fun a U g mk q => ⟨q.1, tk_E.call q.2.1, q.2.2⟩, va_recv hK hP (ci := 4) (q0 := 0) rfl rfl, fun U hU hW => ⟨rfl, tk_E.warm hW hE, by rw [hU]; exact hP⟩⟩ rfl rfl hl.1 rfl (lv_room (Nat.le_of_ble_eq_true rfl)) dM_remake_20 ⟨Nat.zero_le _, Nat.zero_le _⟩)) (fun r_3 er_3 => ?_)
    replace er_3 := er_3.trans (hfo)
    subst er_3
    refine lv_if_ge (tgt := 33) hx hb dM_remake_23 (by decide) (fun c_4 => ?_) (fun c_4 => ?_)
    · exact absurd c_4 (by decide)
    · refine lv_aload_n hx hb dM_remake_26 rfl (lv_at hl 0 rfl) ?_
      refine vp_callSi (va_Run.run (va_runV (As := []) (rest := []) ⟨hx, hb, hml, hown, hts⟩ (c_M_allPinned l dC dI ka h ad 0 mnw mcp mcb mcv mcl mbl mpl mfm mto mfs mls mpg mpn mus mdi mst mbs (nI q) men mfl mrd mwn mlf ) (cwV 0 hts (tw_V wi_592 wi_594 wi_17 wi_28 wi_595) rfl rfl rfl (by decide +kernel) ⟨Nat.le_of_ble_eq_true rfl, Nat.le_of_ble_eq_true rfl⟩) ⟨fun a U g mk q => ⟨q.1, tk_E.call q.2.1, q.2.2⟩, va_recv hK hP (ci := 4) (q0 := 0) rfl rfl, fun U hU hW => ⟨rfl, tk_E.warm hW hE, by rw [hU]; exact hP⟩⟩ rfl rfl hl.1 rfl (lv_room (Nat.le_of_ble_eq_true rfl)) dM_remake_27 ⟨Nat.zero_le _, Nat.zero_le _⟩)) (fun r_5 er_5 => ?_)
      replace er_5 := er_5.trans (hap)
      subst er_5
      refine lv_if_eq (tgt := 39) hx hb dM_remake_30 (by decide) (fun c_6 => ?_) (fun c_6 => ?_)
      · refine lv_aload_n hx hb dM_remake_39 rfl (lv_at hl 0 rfl) ?_
        have hFc := tk_freeW hD hS hA
        refine va_calli (va_runV (As := []) (rest := []) ⟨hx, hb, hml, hown, hts⟩ (c_M_found_c l dC dI ka _ h ad 0 mnw mcp mcb mcv mcl mbl mpl mfm mto mfs mls mpg mpn mus mdi mst mbs men mfl mrd mwn mlf q f0 u1 hall hq0 hf0 hus0 hHB htk hd0) (cwV 0 hts (tw_V wi_596 wi_598 wi_18 wi_28 wi_599) rfl rfl rfl (by decide +kernel) ⟨Nat.le_of_ble_eq_true rfl, Nat.le_of_ble_eq_true rfl⟩) ⟨fun a U g mk q => ⟨q.1, q.2.1, tk_E.call q.2.2.1, q.2.2.2⟩, va_recv hK hP (ci := 4) (q0 := 0) rfl rfl, fun U hU hW => ⟨rfl, by rw [hU], tk_E.warm hW hE, by rw [hU]; exact hP, hD.weaken (fun _ _ _ _ => trivial)⟩⟩ rfl rfl hl.1 rfl (lv_room (Nat.le_of_ble_eq_true rfl)) dM_remake_40 ⟨Nat.zero_le _, Nat.zero_le _⟩) hS (fun q _ h => hFc q h) hFc (fun r_8 u_7 t H1 locs ht hvm hw hB hz1 hk1 hS => ?_)
        have hB : va_P (dC, dI) clB (mw h ad ka 0 mnw mcp mcb mcv mcl mbl mpl mfm mto mfs mls mpg mpn u1 mdi mst mbs (nI (nxt f0)) men mfl mrd mwn mlf) H1 := by rw [← ht]; exact hB
        obtain ⟨hP, hD⟩ := (⟨hB, mw_D hDw⟩ : va_P (dC, dI) clB (mw h ad ka 0 mnw mcp mcb mcv mcl mbl mpl mfm mto mfs mls mpg mpn u1 mdi mst mbs (nI (nxt f0)) men mfl mrd mwn mlf) H1 ∧ va_D A (mw h ad ka 0 mnw mcp mcb mcv mcl mbl mpl mfm mto mfs mls mpg mpn u1 mdi mst mbs (nI (nxt f0)) men mfl mrd mwn mlf))
        generalize H1 = H at hP hS ⊢
        have hP : va_P (dC, dI) clB (mw h ad ka 0 mnw mcp mcb mcv mcl mbl mpl mfm mto mfs mls mpg mpn u1 mdi mst mbs (nI (nxt f0)) men mfl mrd mwn mlf) H := hP
        have hD : va_D A (mw h ad ka 0 mnw mcp mcb mcv mcl mbl mpl mfm mto mfs mls mpg mpn u1 mdi mst mbs (nI (nxt f0)) men mfl mrd mwn mlf) := mw_D hDw
        subst hw
        refine lv_istore_n (lv' := [(2, .int (nI f0)), (0, .ref h), (1, .int x)]) hx hb dM_remake_43 rfl hl (by decide) rfl (fun ls hl => ?_)
        refine lv_iload_n hx hb dM_remake_44 rfl (lv_at hl 0 rfl) ?_
        refine lv_if_ge (tgt := 54) hx hb dM_remake_45 (by decide) (fun c_9 => ?_) (fun c_9 => ?_)
        · refine lv_aload_n hx hb dM_remake_54 rfl (lv_at hl 1 rfl) ?_
          refine lv_iload_n hx hb dM_remake_55 rfl (lv_at hl 0 rfl) ?_
          refine lv_iload_n hx hb dM_remake_56 rfl (lv_at hl 2 rfl) ?_
          refine lv_aload_n hx hb dM_remake_57 rfl (lv_at hl 1 rfl) ?_
          refine va_get (D := (dC, dI)) (ci := 4) (v := .int mnw) (C := RM) (T := TM) (N := 24) hx hb hts (inC inM) hown hK hP 0 rfl rfl 1 (by decide) (hq _ wi_467) (fun _ h9 => h9) rfl dM_remake_58 ?_
          have hFc := tk_freeW hD hS hA
          refine va_callv (va_runV (As := [.int (nI f0), .int x, .int mnw]) (rest := []) ⟨hx, hb, hml, hown, hts⟩ (c_M_fill l dC dI ka _ h ad 0 mnw mcp mcb mcv mcl mbl mpl mfm mto mfs mls mpg mpn u1 mdi mst mbs (nI (nxt f0)) men mfl mrd mwn mlf (nI f0) x mnw f0 n rfl hf0 ex hn) (cwV 3 hts (tw_V wi_609 wi_611 wi_21 wi_28 wi_612) rfl rfl rfl (by decide +kernel) ⟨Nat.le_of_ble_eq_true rfl, Nat.le_of_ble_eq_true rfl⟩) ⟨fun a U g mk q => ⟨q.1, q.2.1, tk_E.call q.2.2.1, q.2.2.2⟩, va_recv hK hP (ci := 4) (q0 := 0) rfl rfl, fun U hU hW => ⟨rfl, by rw [hU], tk_E.warm hW hE, by rw [hU]; exact hP, hD.weaken (fun _ _ _ _ => trivial)⟩⟩ rfl rfl hl.1 rfl (lv_room (Nat.le_of_ble_eq_true rfl)) dM_remake_61 ⟨Nat.zero_le _, Nat.zero_le _⟩) hS (fun q _ h => hFc q h) hFc (fun u_10 t H1 locs ht hvm hw hB hz1 hk1 hS => ?_)
          have hB : va_P (dC, dI) clB (mw h ad ka 0 mnw mcp mcb mcv mcl mbl mpl mfm mto mfs mls (upd mpg f0 x) (upd mpn f0 1) (upd u1 f0 1) (upd mdi f0 0) (upd mst f0 (mfs n)) (upd mbs f0 mnw) (nI (nxt f0)) men mfl mrd mwn mlf) H1 := by rw [← ht]; exact hB
          obtain ⟨hP, hD⟩ := (⟨hB, mw_D hDw⟩ : va_P (dC, dI) clB (mw h ad ka 0 mnw mcp mcb mcv mcl mbl mpl mfm mto mfs mls (upd mpg f0 x) (upd mpn f0 1) (upd u1 f0 1) (upd mdi f0 0) (upd mst f0 (mfs n)) (upd mbs f0 mnw) (nI (nxt f0)) men mfl mrd mwn mlf) H1 ∧ va_D A (mw h ad ka 0 mnw mcp mcb mcv mcl mbl mpl mfm mto mfs mls (upd mpg f0 x) (upd mpn f0 1) (upd u1 f0 1) (upd mdi f0 0) (upd mst f0 (mfs n)) (upd mbs f0 mnw) (nI (nxt f0)) men mfl mrd mwn mlf))
          generalize H1 = H at hP hS ⊢
          have hP : va_P (dC, dI) clB (mw h ad ka 0 mnw mcp mcb mcv mcl mbl mpl mfm mto mfs mls (upd mpg f0 x) (upd mpn f0 1) (upd u1 f0 1) (upd mdi f0 0) (upd mst f0 (mfs n)) (upd mbs f0 mnw) (nI (nxt f0)) men mfl mrd mwn mlf) H := hP
          have hD : va_D A (mw h ad ka 0 mnw mcp mcb mcv mcl mbl mpl mfm mto mfs mls (upd mpg f0 x) (upd mpn f0 1) (upd u1 f0 1) (upd mdi f0 0) (upd mst f0 (mfs n)) (upd mbs f0 mnw) (nI (nxt f0)) men mfl mrd mwn mlf) := mw_D hDw
          refine lv_iload_n hx hb dM_remake_64 rfl (lv_at hl 0 rfl) ?_
          exact W.iret (v := (nI f0)) hx hb hr (fun t ht hW => ⟨⟨(nI f0), (), rfl, rfl, by show va_P _ _ _ t.heap; rw [ht]; exact hP⟩, hS.F ht⟩) hS.2.2 dM_remake_65
        · exact absurd (nI_pos' (n := f0) (by omega)) c_9
      · exact absurd c_6 (by decide)
  · exact absurd c_2 (by decide)

set_option maxHeartbeats 4000000 in
set_option maxRecDepth 100000 in
theorem c_M_remake_d (l : Launch) (dC : Nat → ClassId) (dI : Nat → Nat → Nat) (ka : Nat → ClassId) (sz : Nat) (h : Nat) (ad : Nat → Nat) (mth mnw : Int32) (mcp mcb mcv mcl mbl mpl mfm mto mfs mls mpg mpn mus mdi mst mbs : Nat → Int32) (men mfl mrd mwn mlf : Int32) (q : Nat) (x : Int32) (n : Nat) (f0 np b u : Nat) (u1 : Nat → Int32) (ex : x = nI n) (hn : n < 192) (hfo : foM mpg x 12 = -1) (hap : apM mpg mpn 12 = 0) (hall : ∀ i, i < 12 → ¬ mpg i < 0) (hq0 : q < 12) (hf0 : f0 < 12) (hus0 : ∀ i, i < 12 → ¬ mus i < 0) (hHB : hbU mpn 48 (mus, q) = (u1, f0)) (htk : mpn f0 = 0 ∧ u1 f0 = 0) (hd0 : ¬ mdi f0 = 0) (hpg : mpg f0 = nI np) (hnp : np < 192) (eb : mbs f0 = nI b) (eu : mnw = nI u) (hbu : b ≤ u) (hu : u < 520) (hok : ∀ z, z < 8 → ¬ mlA mlf z = 0) : Met l yM_remake wM_remake ({ frames := 4, cells := 0, slots := 0, locals := 92 }) (va_Pc [.ref h, .int x] (fun U => U.heap.size = sz ∧ tk_E dC dI ka U ∧ va_P (dC, dI) clB (mw h ad ka mth mnw mcp mcb mcv mcl mbl mpl mfm mto mfs mls mpg mpn mus mdi mst mbs (nI q) men mfl mrd mwn mlf) U.heap ∧ va_D (fun _ => True) (mw h ad ka mth mnw mcp mcb mcv mcl mbl mpl mfm mto mfs mls mpg mpn mus mdi mst mbs (nI q) men mfl mrd mwn mlf))) (va_Qi (fun (r : Int32) (_ : Unit) => r = nI f0) (fun _ t => va_P (dC, dI) clB (mw h ad ka 0 mnw mcp mcb mcv mcl mbl mpl (secF mfm np (nI b) 8) (secF mto np (nI u) 8) (fsF mfs np (rs1 (mst f0)) 8) (lsF mls np (rs1 (mst f0)) 8) (upd mpg f0 x) (upd mpn f0 1) (upd u1 f0 1) (upd (upd mdi f0 0) f0 0) (upd (upd mst f0 (rs1 (mst f0))) f0 ((fsF mfs np (rs1 (mst f0)) 8) n)) (upd mbs f0 mnw) (nI (nxt f0)) (if (plcF mcp mcl mpl (mpg f0) b (u - b)) ≤ men then men else (plcF mcp mcl mpl (mpg f0) b (u - b))) (if (plcF mcp mcl mpl (mpg f0) b (u - b)) ≤ men then mfl else mfl + 1) mrd (mwn + nI 8) (mlA mlf 8)) t.heap) (va_A (mw h ad ka mth mnw mcp mcb mcv mcl mbl mpl mfm mto mfs mls mpg mpn mus mdi mst mbs (nI q) men mfl mrd mwn mlf) sz)) 0 0 (va_A (mw h ad ka mth mnw mcp mcb mcv mcl mbl mpl mfm mto mfs mls mpg mpn mus mdi mst mbs (nI q) men mfl mrd mwn mlf) sz) := by
  refine Met.ofW (cc := cM_remake) (maxL := 3) (ret := (some .int)) (by decide) rfl ?_
  intro p e s m args below meth c s₁ B hml hv
  obtain ⟨rfl, hsz, hE, hP, hD0⟩ := hv
  have hx := B.exec
  have hb := B.bytes
  have hr := B.returns
  have hts := atoms_spec (ws := wM_remake) B.pre
  have hq : ∀ w ∈ lwg, w.before _ s = true := fun w h => hts w (List.mem_cons_of_mem _ h)
  have hown : s.vm.findClass RM = some m.cls := findClass_of_methodNamed B.named
  have hlocks := B.notSynchronized
  have hK := hE.1
  have hN := hE.2
  subst hsz
  have hD := hD0.self (sz := s.heap.size)
  generalize hAe : va_A (mw h ad ka mth mnw mcp mcb mcv mcl mbl mpl mfm mto mfs mls mpg mpn mus mdi mst mbs (nI q) men mfl mrd mwn mlf) s.heap.size = A at hD ⊢
  have hA : ∀ q : Nat, s.heap.size ≤ q → A q := fun q h => by rw [← hAe]; exact Or.inr h
  have hS : va_S A s.heap s.heap [] := va_S.rf
  have hDw := hD
  have hP : va_P (dC, dI) clB (mw h ad ka mth mnw mcp mcb mcv mcl mbl mpl mfm mto mfs mls mpg mpn mus mdi mst mbs (nI q) men mfl mrd mwn mlf) s.heap := hP
  have hl := lv_entry ([.ref h, .int x]) (n := 3) (Nat.le_of_ble_eq_true rfl)
  rw [lg_entry_eq]
  generalize (lg_sl ([.ref h, .int x]) ++ List.replicate (3 - (lg_sl ([.ref h, .int x])).length) Slot.unset).toArray = ls at hl ⊢
  have hl : lv_has ls 3 [(0, .ref h), (1, .int x)] := hl
  refine lv_aload_n hx hb dM_remake_0 rfl (lv_at hl 0 rfl) ?_
  refine lv_iconst (v := 0) hx hb dM_remake_1 (by decide) ?_
  refine va_put (D := (dC, dI)) (ci := 4) (v := .int 0) (ty := .int) (C := RM) (T := TM) (N := 24) hx hb hts (inC inM) tyM tyM_ok nmM hown hK hP hD hS 0 rfl rfl 0 (by decide) (hq _ wi_466) (fun _ h9 => h9) rfl (by decide +kernel) rfl rfl (Nat.le_of_ble_eq_true rfl) dM_remake_2 (fun H locs hP hD hS => ?_)
  have hP : va_P (dC, dI) clB (mw h ad ka 0 mnw mcp mcb mcv mcl mbl mpl mfm mto mfs mls mpg mpn mus mdi mst mbs (nI q) men mfl mrd mwn mlf) H := hP
  have hD : va_D A (mw h ad ka 0 mnw mcp mcb mcv mcl mbl mpl mfm mto mfs mls mpg mpn mus mdi mst mbs (nI q) men mfl mrd mwn mlf) := mw_D hDw
  refine lv_iload_n hx hb dM_remake_5 rfl (lv_at hl 1 rfl) ?_
  refine vp_callSi (va_Run.run (va_runS (As := [.int x]) (rest := []) ⟨hx, hb, hml, hown, hts⟩ (c_M_isPage l dC dI ka x) (cwS 1 hts (tw_S wi_569 wi_570 wi_28 wi_571) rfl rfl rfl (by decide +kernel) ⟨Nat.le_of_ble_eq_true rfl, Nat.le_of_ble_eq_true rfl⟩) ⟨fun a U g mk q => ⟨q.1, tk_E.call q.2.1, q.2.2⟩, fun U hU hW => ⟨rfl, tk_E.warm hW hE, by rw [hU]; exact (fun _ _ h => nomatch h)⟩⟩ rfl rfl hl.1 rfl (lv_room (Nat.le_of_ble_eq_true rfl)) dM_remake_6 ⟨Nat.zero_le _, Nat.zero_le _⟩)) (fun r_1 er_1 => ?_)
  replace er_1 := er_1.trans (tk_is1 (N := 192) ex hn (by decide))
  subst er_1
  refine lv_if_ne (tgt := 18) hx hb dM_remake_9 (by decide) (fun c_2 => ?_) (fun c_2 => ?_)
  · refine lv_aload_n hx hb dM_remake_18 rfl (lv_at hl 0 rfl) ?_
    refine lv_iload_n hx hb dM_remake_19 rfl (lv_at hl 1 rfl) ?_
    refine vp_callSi (va_Run.run (va_runV (As := [.int x]) (rest := []) ⟨hx, hb, hml, hown, hts⟩ (c_M_frameOf l dC dI ka h ad 0 mnw mcp mcb mcv mcl mbl mpl mfm mto mfs mls mpg mpn mus mdi mst mbs (nI q) men mfl mrd mwn mlf x ) (cwV 1 hts (tw_V wi_588 wi_590 wi_16 wi_28 wi_591) rfl rfl rfl (by decide +kernel) ⟨Nat.le_of_ble_eq_true rfl, Nat.le_of_ble_eq_true rfl⟩) ⟨fun a U g mk q => ⟨q.1, tk_E.call q.2.1, q.2.2⟩, va_recv hK hP (ci := 4) (q0 := 0) rfl rfl, fun U hU hW => ⟨rfl, tk_E.warm hW hE, by rw [hU]; exact hP⟩⟩ rfl rfl hl.1 rfl (lv_room (Nat.le_of_ble_eq_true rfl)) dM_remake_20 ⟨Nat.zero_le _, Nat.zero_le _⟩)) (fun r_3 er_3 => ?_)
    replace er_3 := er_3.trans (hfo)
    subst er_3
    refine lv_if_ge (tgt := 33) hx hb dM_remake_23 (by decide) (fun c_4 => ?_) (fun c_4 => ?_)
    · exact absurd c_4 (by decide)
    · refine lv_aload_n hx hb dM_remake_26 rfl (lv_at hl 0 rfl) ?_
      refine vp_callSi (va_Run.run (va_runV (As := []) (rest := []) ⟨hx, hb, hml, hown, hts⟩ (c_M_allPinned l dC dI ka h ad 0 mnw mcp mcb mcv mcl mbl mpl mfm mto mfs mls mpg mpn mus mdi mst mbs (nI q) men mfl mrd mwn mlf ) (cwV 0 hts (tw_V wi_592 wi_594 wi_17 wi_28 wi_595) rfl rfl rfl (by decide +kernel) ⟨Nat.le_of_ble_eq_true rfl, Nat.le_of_ble_eq_true rfl⟩) ⟨fun a U g mk q => ⟨q.1, tk_E.call q.2.1, q.2.2⟩, va_recv hK hP (ci := 4) (q0 := 0) rfl rfl, fun U hU hW => ⟨rfl, tk_E.warm hW hE, by rw [hU]; exact hP⟩⟩ rfl rfl hl.1 rfl (lv_room (Nat.le_of_ble_eq_true rfl)) dM_remake_27 ⟨Nat.zero_le _, Nat.zero_le _⟩)) (fun r_5 er_5 => ?_)
      replace er_5 := er_5.trans (hap)
      subst er_5
      refine lv_if_eq (tgt := 39) hx hb dM_remake_30 (by decide) (fun c_6 => ?_) (fun c_6 => ?_)
      · refine lv_aload_n hx hb dM_remake_39 rfl (lv_at hl 0 rfl) ?_
        have hFc := tk_freeW hD hS hA
        refine va_calli (va_runV (As := []) (rest := []) ⟨hx, hb, hml, hown, hts⟩ (c_M_found_d l dC dI ka _ h ad 0 mnw mcp mcb mcv mcl mbl mpl mfm mto mfs mls mpg mpn mus mdi mst mbs men mfl mrd mwn mlf q f0 np b u u1 hall hq0 hf0 hus0 hHB htk hd0 hpg hnp eb eu hbu hu hok) (cwV 0 hts (tw_V wi_596 wi_598 wi_18 wi_28 wi_599) rfl rfl rfl (by decide +kernel) ⟨Nat.le_of_ble_eq_true rfl, Nat.le_of_ble_eq_true rfl⟩) ⟨fun a U g mk q => ⟨q.1, q.2.1, tk_E.call q.2.2.1, q.2.2.2⟩, va_recv hK hP (ci := 4) (q0 := 0) rfl rfl, fun U hU hW => ⟨rfl, by rw [hU], tk_E.warm hW hE, by rw [hU]; exact hP, hD.weaken (fun _ _ _ _ => trivial)⟩⟩ rfl rfl hl.1 rfl (lv_room (Nat.le_of_ble_eq_true rfl)) dM_remake_40 ⟨Nat.zero_le _, Nat.zero_le _⟩) hS (fun q _ h => hFc q h) hFc (fun r_8 u_7 t H1 locs ht hvm hw hB hz1 hk1 hS => ?_)
        have hB : va_P (dC, dI) clB (mw h ad ka 0 mnw mcp mcb mcv mcl mbl mpl (secF mfm np (nI b) 8) (secF mto np (nI u) 8) (fsF mfs np (rs1 (mst f0)) 8) (lsF mls np (rs1 (mst f0)) 8) mpg mpn u1 (upd mdi f0 0) (upd mst f0 (rs1 (mst f0))) mbs (nI (nxt f0)) (if (plcF mcp mcl mpl (mpg f0) b (u - b)) ≤ men then men else (plcF mcp mcl mpl (mpg f0) b (u - b))) (if (plcF mcp mcl mpl (mpg f0) b (u - b)) ≤ men then mfl else mfl + 1) mrd (mwn + nI 8) (mlA mlf 8)) H1 := by rw [← ht]; exact hB
        obtain ⟨hP, hD⟩ := (⟨hB, mw_D hDw⟩ : va_P (dC, dI) clB (mw h ad ka 0 mnw mcp mcb mcv mcl mbl mpl (secF mfm np (nI b) 8) (secF mto np (nI u) 8) (fsF mfs np (rs1 (mst f0)) 8) (lsF mls np (rs1 (mst f0)) 8) mpg mpn u1 (upd mdi f0 0) (upd mst f0 (rs1 (mst f0))) mbs (nI (nxt f0)) (if (plcF mcp mcl mpl (mpg f0) b (u - b)) ≤ men then men else (plcF mcp mcl mpl (mpg f0) b (u - b))) (if (plcF mcp mcl mpl (mpg f0) b (u - b)) ≤ men then mfl else mfl + 1) mrd (mwn + nI 8) (mlA mlf 8)) H1 ∧ va_D A (mw h ad ka 0 mnw mcp mcb mcv mcl mbl mpl (secF mfm np (nI b) 8) (secF mto np (nI u) 8) (fsF mfs np (rs1 (mst f0)) 8) (lsF mls np (rs1 (mst f0)) 8) mpg mpn u1 (upd mdi f0 0) (upd mst f0 (rs1 (mst f0))) mbs (nI (nxt f0)) (if (plcF mcp mcl mpl (mpg f0) b (u - b)) ≤ men then men else (plcF mcp mcl mpl (mpg f0) b (u - b))) (if (plcF mcp mcl mpl (mpg f0) b (u - b)) ≤ men then mfl else mfl + 1) mrd (mwn + nI 8) (mlA mlf 8)))
        generalize H1 = H at hP hS ⊢
        have hP : va_P (dC, dI) clB (mw h ad ka 0 mnw mcp mcb mcv mcl mbl mpl (secF mfm np (nI b) 8) (secF mto np (nI u) 8) (fsF mfs np (rs1 (mst f0)) 8) (lsF mls np (rs1 (mst f0)) 8) mpg mpn u1 (upd mdi f0 0) (upd mst f0 (rs1 (mst f0))) mbs (nI (nxt f0)) (if (plcF mcp mcl mpl (mpg f0) b (u - b)) ≤ men then men else (plcF mcp mcl mpl (mpg f0) b (u - b))) (if (plcF mcp mcl mpl (mpg f0) b (u - b)) ≤ men then mfl else mfl + 1) mrd (mwn + nI 8) (mlA mlf 8)) H := hP
        have hD : va_D A (mw h ad ka 0 mnw mcp mcb mcv mcl mbl mpl (secF mfm np (nI b) 8) (secF mto np (nI u) 8) (fsF mfs np (rs1 (mst f0)) 8) (lsF mls np (rs1 (mst f0)) 8) mpg mpn u1 (upd mdi f0 0) (upd mst f0 (rs1 (mst f0))) mbs (nI (nxt f0)) (if (plcF mcp mcl mpl (mpg f0) b (u - b)) ≤ men then men else (plcF mcp mcl mpl (mpg f0) b (u - b))) (if (plcF mcp mcl mpl (mpg f0) b (u - b)) ≤ men then mfl else mfl + 1) mrd (mwn + nI 8) (mlA mlf 8)) := mw_D hDw
        subst hw
        refine lv_istore_n (lv' := [(2, .int (nI f0)), (0, .ref h), (1, .int x)]) hx hb dM_remake_43 rfl hl (by decide) rfl (fun ls hl => ?_)
        refine lv_iload_n hx hb dM_remake_44 rfl (lv_at hl 0 rfl) ?_
        refine lv_if_ge (tgt := 54) hx hb dM_remake_45 (by decide) (fun c_9 => ?_) (fun c_9 => ?_)
        · refine lv_aload_n hx hb dM_remake_54 rfl (lv_at hl 1 rfl) ?_
          refine lv_iload_n hx hb dM_remake_55 rfl (lv_at hl 0 rfl) ?_
          refine lv_iload_n hx hb dM_remake_56 rfl (lv_at hl 2 rfl) ?_
          refine lv_aload_n hx hb dM_remake_57 rfl (lv_at hl 1 rfl) ?_
          refine va_get (D := (dC, dI)) (ci := 4) (v := .int mnw) (C := RM) (T := TM) (N := 24) hx hb hts (inC inM) hown hK hP 0 rfl rfl 1 (by decide) (hq _ wi_467) (fun _ h9 => h9) rfl dM_remake_58 ?_
          have hFc := tk_freeW hD hS hA
          refine va_callv (va_runV (As := [.int (nI f0), .int x, .int mnw]) (rest := []) ⟨hx, hb, hml, hown, hts⟩ (c_M_fill l dC dI ka _ h ad 0 mnw mcp mcb mcv mcl mbl mpl (secF mfm np (nI b) 8) (secF mto np (nI u) 8) (fsF mfs np (rs1 (mst f0)) 8) (lsF mls np (rs1 (mst f0)) 8) mpg mpn u1 (upd mdi f0 0) (upd mst f0 (rs1 (mst f0))) mbs (nI (nxt f0)) (if (plcF mcp mcl mpl (mpg f0) b (u - b)) ≤ men then men else (plcF mcp mcl mpl (mpg f0) b (u - b))) (if (plcF mcp mcl mpl (mpg f0) b (u - b)) ≤ men then mfl else mfl + 1) mrd (mwn + nI 8) (mlA mlf 8) (nI f0) x mnw f0 n rfl hf0 ex hn) (cwV 3 hts (tw_V wi_609 wi_611 wi_21 wi_28 wi_612) rfl rfl rfl (by decide +kernel) ⟨Nat.le_of_ble_eq_true rfl, Nat.le_of_ble_eq_true rfl⟩) ⟨fun a U g mk q => ⟨q.1, q.2.1, tk_E.call q.2.2.1, q.2.2.2⟩, va_recv hK hP (ci := 4) (q0 := 0) rfl rfl, fun U hU hW => ⟨rfl, by rw [hU], tk_E.warm hW hE, by rw [hU]; exact hP, hD.weaken (fun _ _ _ _ => trivial)⟩⟩ rfl rfl hl.1 rfl (lv_room (Nat.le_of_ble_eq_true rfl)) dM_remake_61 ⟨Nat.zero_le _, Nat.zero_le _⟩) hS (fun q _ h => hFc q h) hFc (fun u_10 t H1 locs ht hvm hw hB hz1 hk1 hS => ?_)
          have hB : va_P (dC, dI) clB (mw h ad ka 0 mnw mcp mcb mcv mcl mbl mpl (secF mfm np (nI b) 8) (secF mto np (nI u) 8) (fsF mfs np (rs1 (mst f0)) 8) (lsF mls np (rs1 (mst f0)) 8) (upd mpg f0 x) (upd mpn f0 1) (upd u1 f0 1) (upd (upd mdi f0 0) f0 0) (upd (upd mst f0 (rs1 (mst f0))) f0 ((fsF mfs np (rs1 (mst f0)) 8) n)) (upd mbs f0 mnw) (nI (nxt f0)) (if (plcF mcp mcl mpl (mpg f0) b (u - b)) ≤ men then men else (plcF mcp mcl mpl (mpg f0) b (u - b))) (if (plcF mcp mcl mpl (mpg f0) b (u - b)) ≤ men then mfl else mfl + 1) mrd (mwn + nI 8) (mlA mlf 8)) H1 := by rw [← ht]; exact hB
          obtain ⟨hP, hD⟩ := (⟨hB, mw_D hDw⟩ : va_P (dC, dI) clB (mw h ad ka 0 mnw mcp mcb mcv mcl mbl mpl (secF mfm np (nI b) 8) (secF mto np (nI u) 8) (fsF mfs np (rs1 (mst f0)) 8) (lsF mls np (rs1 (mst f0)) 8) (upd mpg f0 x) (upd mpn f0 1) (upd u1 f0 1) (upd (upd mdi f0 0) f0 0) (upd (upd mst f0 (rs1 (mst f0))) f0 ((fsF mfs np (rs1 (mst f0)) 8) n)) (upd mbs f0 mnw) (nI (nxt f0)) (if (plcF mcp mcl mpl (mpg f0) b (u - b)) ≤ men then men else (plcF mcp mcl mpl (mpg f0) b (u - b))) (if (plcF mcp mcl mpl (mpg f0) b (u - b)) ≤ men then mfl else mfl + 1) mrd (mwn + nI 8) (mlA mlf 8)) H1 ∧ va_D A (mw h ad ka 0 mnw mcp mcb mcv mcl mbl mpl (secF mfm np (nI b) 8) (secF mto np (nI u) 8) (fsF mfs np (rs1 (mst f0)) 8) (lsF mls np (rs1 (mst f0)) 8) (upd mpg f0 x) (upd mpn f0 1) (upd u1 f0 1) (upd (upd mdi f0 0) f0 0) (upd (upd mst f0 (rs1 (mst f0))) f0 ((fsF mfs np (rs1 (mst f0)) 8) n)) (upd mbs f0 mnw) (nI (nxt f0)) (if (plcF mcp mcl mpl (mpg f0) b (u - b)) ≤ men then men else (plcF mcp mcl mpl (mpg f0) b (u - b))) (if (plcF mcp mcl mpl (mpg f0) b (u - b)) ≤ men then mfl else mfl + 1) mrd (mwn + nI 8) (mlA mlf 8)))
          generalize H1 = H at hP hS ⊢
          have hP : va_P (dC, dI) clB (mw h ad ka 0 mnw mcp mcb mcv mcl mbl mpl (secF mfm np (nI b) 8) (secF mto np (nI u) 8) (fsF mfs np (rs1 (mst f0)) 8) (lsF mls np (rs1 (mst f0)) 8) (upd mpg f0 x) (upd mpn f0 1) (upd u1 f0 1) (upd (upd mdi f0 0) f0 0) (upd (upd mst f0 (rs1 (mst f0))) f0 ((fsF mfs np (rs1 (mst f0)) 8) n)) (upd mbs f0 mnw) (nI (nxt f0)) (if (plcF mcp mcl mpl (mpg f0) b (u - b)) ≤ men then men else (plcF mcp mcl mpl (mpg f0) b (u - b))) (if (plcF mcp mcl mpl (mpg f0) b (u - b)) ≤ men then mfl else mfl + 1) mrd (mwn + nI 8) (mlA mlf 8)) H := hP
          have hD : va_D A (mw h ad ka 0 mnw mcp mcb mcv mcl mbl mpl (secF mfm np (nI b) 8) (secF mto np (nI u) 8) (fsF mfs np (rs1 (mst f0)) 8) (lsF mls np (rs1 (mst f0)) 8) (upd mpg f0 x) (upd mpn f0 1) (upd u1 f0 1) (upd (upd mdi f0 0) f0 0) (upd (upd mst f0 (rs1 (mst f0))) f0 ((fsF mfs np (rs1 (mst f0)) 8) n)) (upd mbs f0 mnw) (nI (nxt f0)) (if (plcF mcp mcl mpl (mpg f0) b (u - b)) ≤ men then men else (plcF mcp mcl mpl (mpg f0) b (u - b))) (if (plcF mcp mcl mpl (mpg f0) b (u - b)) ≤ men then mfl else mfl + 1) mrd (mwn + nI 8) (mlA mlf 8)) := mw_D hDw
          refine lv_iload_n hx hb dM_remake_64 rfl (lv_at hl 0 rfl) ?_
          exact W.iret (v := (nI f0)) hx hb hr (fun t ht hW => ⟨⟨(nI f0), (), rfl, rfl, by show va_P _ _ _ t.heap; rw [ht]; exact hP⟩, hS.F ht⟩) hS.2.2 dM_remake_65
        · exact absurd (nI_pos' (n := f0) (by omega)) c_9
      · exact absurd c_6 (by decide)
  · exact absurd c_2 (by decide)

set_option maxHeartbeats 4000000 in
set_option maxRecDepth 100000 in
theorem c_M_remake_x (l : Launch) (dC : Nat → ClassId) (dI : Nat → Nat → Nat) (ka : Nat → ClassId) (sz : Nat) (h : Nat) (ad : Nat → Nat) (mth mnw : Int32) (mcp mcb mcv mcl mbl mpl mfm mto mfs mls mpg mpn mus mdi mst mbs : Nat → Int32) (men mfl mrd mwn mlf : Int32) (q : Nat) (x : Int32) (n : Nat) (f0 np b u mm : Nat) (u1 : Nat → Int32) (cpN cbN : Nat → Nat) (ex : x = nI n) (hn : n < 192) (hfo : foM mpg x 12 = -1) (hap : apM mpg mpn 12 = 0) (hall : ∀ i, i < 12 → ¬ mpg i < 0) (hq0 : q < 12) (hf0 : f0 < 12) (hus0 : ∀ i, i < 12 → ¬ mus i < 0) (hHB : hbU mpn 48 (mus, q) = (u1, f0)) (htk : mpn f0 = 0 ∧ u1 f0 = 0) (hd0 : ¬ mdi f0 = 0) (hpg : mpg f0 = nI np) (hnp : np < 192) (eb : mbs f0 = nI b) (eu : mnw = nI u) (hbu : b ≤ u) (hu : u < 520) (hch : ∀ e, 1 ≤ e → e ≤ u → mcp e = nI (cpN e) ∧ cpN e < 192 ∧ mcb e = nI (cbN e) ∧ cbN e < 512) (hm8 : mm < 8) (hnz : ∀ z, z < mm → ¬ mlA mlf z = 0) (h0 : mlA mlf mm = 0) : Met l yM_remake wM_remake ({ frames := 4, cells := 0, slots := 0, locals := 92 }) (va_Pc [.ref h, .int x] (fun U => U.heap.size = sz ∧ tk_E dC dI ka U ∧ va_P (dC, dI) clB (mw h ad ka mth mnw mcp mcb mcv mcl mbl mpl mfm mto mfs mls mpg mpn mus mdi mst mbs (nI q) men mfl mrd mwn mlf) U.heap ∧ va_D (fun _ => True) (mw h ad ka mth mnw mcp mcb mcv mcl mbl mpl mfm mto mfs mls mpg mpn mus mdi mst mbs (nI q) men mfl mrd mwn mlf))) (va_Qi (fun (r : Int32) (_ : Unit) => r = 0) (fun _ t => va_P (dC, dI) clB (mw h ad ka 3 mnw mcp mcb mcv mcl (stepF mbl (lsB mbl (secF mto np (nI u) mm) cpN cbN) (u + 1)) (stepF mpl (lsP mpl (secF mto np (nI u) mm) cpN) (u + 1)) (secF mfm np (nI b) mm) (secF mto np (nI u) mm) (fsF mfs np (rs1 (mst f0)) mm) (lsF mls np (rs1 (mst f0)) mm) (dropF (-1) mpg 12) mpn u1 mdi (upd mst f0 (rs1 (mst f0))) mbs 0 (if (plcF mcp mcl mpl (mpg f0) b (u - b)) ≤ men then men else (plcF mcp mcl mpl (mpg f0) b (u - b))) (if (plcF mcp mcl mpl (mpg f0) b (u - b)) ≤ men then mfl else mfl + 1) mrd (mwn + nI mm) (-1)) t.heap) (va_A (mw h ad ka mth mnw mcp mcb mcv mcl mbl mpl mfm mto mfs mls mpg mpn mus mdi mst mbs (nI q) men mfl mrd mwn mlf) sz)) 0 0 (va_A (mw h ad ka mth mnw mcp mcb mcv mcl mbl mpl mfm mto mfs mls mpg mpn mus mdi mst mbs (nI q) men mfl mrd mwn mlf) sz) := by
  refine Met.ofW (cc := cM_remake) (maxL := 3) (ret := (some .int)) (by decide) rfl ?_
  intro p e s m args below meth c s₁ B hml hv
  obtain ⟨rfl, hsz, hE, hP, hD0⟩ := hv
  have hx := B.exec
  have hb := B.bytes
  have hr := B.returns
  have hts := atoms_spec (ws := wM_remake) B.pre
  have hq : ∀ w ∈ lwg, w.before _ s = true := fun w h => hts w (List.mem_cons_of_mem _ h)
  have hown : s.vm.findClass RM = some m.cls := findClass_of_methodNamed B.named
  have hlocks := B.notSynchronized
  have hK := hE.1
  have hN := hE.2
  subst hsz
  have hD := hD0.self (sz := s.heap.size)
  generalize hAe : va_A (mw h ad ka mth mnw mcp mcb mcv mcl mbl mpl mfm mto mfs mls mpg mpn mus mdi mst mbs (nI q) men mfl mrd mwn mlf) s.heap.size = A at hD ⊢
  have hA : ∀ q : Nat, s.heap.size ≤ q → A q := fun q h => by rw [← hAe]; exact Or.inr h
  have hS : va_S A s.heap s.heap [] := va_S.rf
  have hDw := hD
  have hP : va_P (dC, dI) clB (mw h ad ka mth mnw mcp mcb mcv mcl mbl mpl mfm mto mfs mls mpg mpn mus mdi mst mbs (nI q) men mfl mrd mwn mlf) s.heap := hP
  have hl := lv_entry ([.ref h, .int x]) (n := 3) (Nat.le_of_ble_eq_true rfl)
  rw [lg_entry_eq]
  generalize (lg_sl ([.ref h, .int x]) ++ List.replicate (3 - (lg_sl ([.ref h, .int x])).length) Slot.unset).toArray = ls at hl ⊢
  have hl : lv_has ls 3 [(0, .ref h), (1, .int x)] := hl
  refine lv_aload_n hx hb dM_remake_0 rfl (lv_at hl 0 rfl) ?_
  refine lv_iconst (v := 0) hx hb dM_remake_1 (by decide) ?_
  refine va_put (D := (dC, dI)) (ci := 4) (v := .int 0) (ty := .int) (C := RM) (T := TM) (N := 24) hx hb hts (inC inM) tyM tyM_ok nmM hown hK hP hD hS 0 rfl rfl 0 (by decide) (hq _ wi_466) (fun _ h9 => h9) rfl (by decide +kernel) rfl rfl (Nat.le_of_ble_eq_true rfl) dM_remake_2 (fun H locs hP hD hS => ?_)
  have hP : va_P (dC, dI) clB (mw h ad ka 0 mnw mcp mcb mcv mcl mbl mpl mfm mto mfs mls mpg mpn mus mdi mst mbs (nI q) men mfl mrd mwn mlf) H := hP
  have hD : va_D A (mw h ad ka 0 mnw mcp mcb mcv mcl mbl mpl mfm mto mfs mls mpg mpn mus mdi mst mbs (nI q) men mfl mrd mwn mlf) := mw_D hDw
  refine lv_iload_n hx hb dM_remake_5 rfl (lv_at hl 1 rfl) ?_
  refine vp_callSi (va_Run.run (va_runS (As := [.int x]) (rest := []) ⟨hx, hb, hml, hown, hts⟩ (c_M_isPage l dC dI ka x) (cwS 1 hts (tw_S wi_569 wi_570 wi_28 wi_571) rfl rfl rfl (by decide +kernel) ⟨Nat.le_of_ble_eq_true rfl, Nat.le_of_ble_eq_true rfl⟩) ⟨fun a U g mk q => ⟨q.1, tk_E.call q.2.1, q.2.2⟩, fun U hU hW => ⟨rfl, tk_E.warm hW hE, by rw [hU]; exact (fun _ _ h => nomatch h)⟩⟩ rfl rfl hl.1 rfl (lv_room (Nat.le_of_ble_eq_true rfl)) dM_remake_6 ⟨Nat.zero_le _, Nat.zero_le _⟩)) (fun r_1 er_1 => ?_)
  replace er_1 := er_1.trans (tk_is1 (N := 192) ex hn (by decide))
  subst er_1
  refine lv_if_ne (tgt := 18) hx hb dM_remake_9 (by decide) (fun c_2 => ?_) (fun c_2 => ?_)
  · refine lv_aload_n hx hb dM_remake_18 rfl (lv_at hl 0 rfl) ?_
    refine lv_iload_n hx hb dM_remake_19 rfl (lv_at hl 1 rfl) ?_
    refine vp_callSi (va_Run.run (va_runV (As := [.int x]) (rest := []) ⟨hx, hb, hml, hown, hts⟩ (c_M_frameOf l dC dI ka h ad 0 mnw mcp mcb mcv mcl mbl mpl mfm mto mfs mls mpg mpn mus mdi mst mbs (nI q) men mfl mrd mwn mlf x ) (cwV 1 hts (tw_V wi_588 wi_590 wi_16 wi_28 wi_591) rfl rfl rfl (by decide +kernel) ⟨Nat.le_of_ble_eq_true rfl, Nat.le_of_ble_eq_true rfl⟩) ⟨fun a U g mk q => ⟨q.1, tk_E.call q.2.1, q.2.2⟩, va_recv hK hP (ci := 4) (q0 := 0) rfl rfl, fun U hU hW => ⟨rfl, tk_E.warm hW hE, by rw [hU]; exact hP⟩⟩ rfl rfl hl.1 rfl (lv_room (Nat.le_of_ble_eq_true rfl)) dM_remake_20 ⟨Nat.zero_le _, Nat.zero_le _⟩)) (fun r_3 er_3 => ?_)
    replace er_3 := er_3.trans (hfo)
    subst er_3
    refine lv_if_ge (tgt := 33) hx hb dM_remake_23 (by decide) (fun c_4 => ?_) (fun c_4 => ?_)
    · exact absurd c_4 (by decide)
    · refine lv_aload_n hx hb dM_remake_26 rfl (lv_at hl 0 rfl) ?_
      refine vp_callSi (va_Run.run (va_runV (As := []) (rest := []) ⟨hx, hb, hml, hown, hts⟩ (c_M_allPinned l dC dI ka h ad 0 mnw mcp mcb mcv mcl mbl mpl mfm mto mfs mls mpg mpn mus mdi mst mbs (nI q) men mfl mrd mwn mlf ) (cwV 0 hts (tw_V wi_592 wi_594 wi_17 wi_28 wi_595) rfl rfl rfl (by decide +kernel) ⟨Nat.le_of_ble_eq_true rfl, Nat.le_of_ble_eq_true rfl⟩) ⟨fun a U g mk q => ⟨q.1, tk_E.call q.2.1, q.2.2⟩, va_recv hK hP (ci := 4) (q0 := 0) rfl rfl, fun U hU hW => ⟨rfl, tk_E.warm hW hE, by rw [hU]; exact hP⟩⟩ rfl rfl hl.1 rfl (lv_room (Nat.le_of_ble_eq_true rfl)) dM_remake_27 ⟨Nat.zero_le _, Nat.zero_le _⟩)) (fun r_5 er_5 => ?_)
      replace er_5 := er_5.trans (hap)
      subst er_5
      refine lv_if_eq (tgt := 39) hx hb dM_remake_30 (by decide) (fun c_6 => ?_) (fun c_6 => ?_)
      · refine lv_aload_n hx hb dM_remake_39 rfl (lv_at hl 0 rfl) ?_
        have hFc := tk_freeW hD hS hA
        refine va_calli (va_runV (As := []) (rest := []) ⟨hx, hb, hml, hown, hts⟩ (c_M_found_x l dC dI ka _ h ad 0 mnw mcp mcb mcv mcl mbl mpl mfm mto mfs mls mpg mpn mus mdi mst mbs men mfl mrd mwn mlf q f0 np b u mm u1 cpN cbN hall hq0 hf0 hus0 hHB htk hd0 hpg hnp eb eu hbu hu hch hm8 hnz h0) (cwV 0 hts (tw_V wi_596 wi_598 wi_18 wi_28 wi_599) rfl rfl rfl (by decide +kernel) ⟨Nat.le_of_ble_eq_true rfl, Nat.le_of_ble_eq_true rfl⟩) ⟨fun a U g mk q => ⟨q.1, q.2.1, tk_E.call q.2.2.1, q.2.2.2⟩, va_recv hK hP (ci := 4) (q0 := 0) rfl rfl, fun U hU hW => ⟨rfl, by rw [hU], tk_E.warm hW hE, by rw [hU]; exact hP, hD.weaken (fun _ _ _ _ => trivial)⟩⟩ rfl rfl hl.1 rfl (lv_room (Nat.le_of_ble_eq_true rfl)) dM_remake_40 ⟨Nat.zero_le _, Nat.zero_le _⟩) hS (fun q _ h => hFc q h) hFc (fun r_8 u_7 t H1 locs ht hvm hw hB hz1 hk1 hS => ?_)
        have hB : va_P (dC, dI) clB (mw h ad ka 0 mnw mcp mcb mcv mcl (stepF mbl (lsB mbl (secF mto np (nI u) mm) cpN cbN) (u + 1)) (stepF mpl (lsP mpl (secF mto np (nI u) mm) cpN) (u + 1)) (secF mfm np (nI b) mm) (secF mto np (nI u) mm) (fsF mfs np (rs1 (mst f0)) mm) (lsF mls np (rs1 (mst f0)) mm) (dropF (-1) mpg 12) mpn u1 mdi (upd mst f0 (rs1 (mst f0))) mbs 0 (if (plcF mcp mcl mpl (mpg f0) b (u - b)) ≤ men then men else (plcF mcp mcl mpl (mpg f0) b (u - b))) (if (plcF mcp mcl mpl (mpg f0) b (u - b)) ≤ men then mfl else mfl + 1) mrd (mwn + nI mm) (-1)) H1 := by rw [← ht]; exact hB
        obtain ⟨hP, hD⟩ := (⟨hB, mw_D hDw⟩ : va_P (dC, dI) clB (mw h ad ka 0 mnw mcp mcb mcv mcl (stepF mbl (lsB mbl (secF mto np (nI u) mm) cpN cbN) (u + 1)) (stepF mpl (lsP mpl (secF mto np (nI u) mm) cpN) (u + 1)) (secF mfm np (nI b) mm) (secF mto np (nI u) mm) (fsF mfs np (rs1 (mst f0)) mm) (lsF mls np (rs1 (mst f0)) mm) (dropF (-1) mpg 12) mpn u1 mdi (upd mst f0 (rs1 (mst f0))) mbs 0 (if (plcF mcp mcl mpl (mpg f0) b (u - b)) ≤ men then men else (plcF mcp mcl mpl (mpg f0) b (u - b))) (if (plcF mcp mcl mpl (mpg f0) b (u - b)) ≤ men then mfl else mfl + 1) mrd (mwn + nI mm) (-1)) H1 ∧ va_D A (mw h ad ka 0 mnw mcp mcb mcv mcl (stepF mbl (lsB mbl (secF mto np (nI u) mm) cpN cbN) (u + 1)) (stepF mpl (lsP mpl (secF mto np (nI u) mm) cpN) (u + 1)) (secF mfm np (nI b) mm) (secF mto np (nI u) mm) (fsF mfs np (rs1 (mst f0)) mm) (lsF mls np (rs1 (mst f0)) mm) (dropF (-1) mpg 12) mpn u1 mdi (upd mst f0 (rs1 (mst f0))) mbs 0 (if (plcF mcp mcl mpl (mpg f0) b (u - b)) ≤ men then men else (plcF mcp mcl mpl (mpg f0) b (u - b))) (if (plcF mcp mcl mpl (mpg f0) b (u - b)) ≤ men then mfl else mfl + 1) mrd (mwn + nI mm) (-1)))
        generalize H1 = H at hP hS ⊢
        have hP : va_P (dC, dI) clB (mw h ad ka 0 mnw mcp mcb mcv mcl (stepF mbl (lsB mbl (secF mto np (nI u) mm) cpN cbN) (u + 1)) (stepF mpl (lsP mpl (secF mto np (nI u) mm) cpN) (u + 1)) (secF mfm np (nI b) mm) (secF mto np (nI u) mm) (fsF mfs np (rs1 (mst f0)) mm) (lsF mls np (rs1 (mst f0)) mm) (dropF (-1) mpg 12) mpn u1 mdi (upd mst f0 (rs1 (mst f0))) mbs 0 (if (plcF mcp mcl mpl (mpg f0) b (u - b)) ≤ men then men else (plcF mcp mcl mpl (mpg f0) b (u - b))) (if (plcF mcp mcl mpl (mpg f0) b (u - b)) ≤ men then mfl else mfl + 1) mrd (mwn + nI mm) (-1)) H := hP
        have hD : va_D A (mw h ad ka 0 mnw mcp mcb mcv mcl (stepF mbl (lsB mbl (secF mto np (nI u) mm) cpN cbN) (u + 1)) (stepF mpl (lsP mpl (secF mto np (nI u) mm) cpN) (u + 1)) (secF mfm np (nI b) mm) (secF mto np (nI u) mm) (fsF mfs np (rs1 (mst f0)) mm) (lsF mls np (rs1 (mst f0)) mm) (dropF (-1) mpg 12) mpn u1 mdi (upd mst f0 (rs1 (mst f0))) mbs 0 (if (plcF mcp mcl mpl (mpg f0) b (u - b)) ≤ men then men else (plcF mcp mcl mpl (mpg f0) b (u - b))) (if (plcF mcp mcl mpl (mpg f0) b (u - b)) ≤ men then mfl else mfl + 1) mrd (mwn + nI mm) (-1)) := mw_D hDw
        subst hw
        refine lv_istore_n (lv' := [(2, .int (-1)), (0, .ref h), (1, .int x)]) hx hb dM_remake_43 rfl hl (by decide) rfl (fun ls hl => ?_)
        refine lv_iload_n hx hb dM_remake_44 rfl (lv_at hl 0 rfl) ?_
        refine lv_if_ge (tgt := 54) hx hb dM_remake_45 (by decide) (fun c_9 => ?_) (fun c_9 => ?_)
        · exact absurd c_9 (by decide)
        · refine lv_aload_n hx hb dM_remake_48 rfl (lv_at hl 1 rfl) ?_
          refine lv_iconst (v := 3) hx hb dM_remake_49 (by decide) ?_
          have hFc := tk_freeW hD hS hA
          refine va_calli (va_runV (As := [.int 3]) (rest := []) ⟨hx, hb, hml, hown, hts⟩ (c_M_fails l dC dI ka _ h ad 0 mnw mcp mcb mcv mcl (stepF mbl (lsB mbl (secF mto np (nI u) mm) cpN cbN) (u + 1)) (stepF mpl (lsP mpl (secF mto np (nI u) mm) cpN) (u + 1)) (secF mfm np (nI b) mm) (secF mto np (nI u) mm) (fsF mfs np (rs1 (mst f0)) mm) (lsF mls np (rs1 (mst f0)) mm) (dropF (-1) mpg 12) mpn u1 mdi (upd mst f0 (rs1 (mst f0))) mbs 0 (if (plcF mcp mcl mpl (mpg f0) b (u - b)) ≤ men then men else (plcF mcp mcl mpl (mpg f0) b (u - b))) (if (plcF mcp mcl mpl (mpg f0) b (u - b)) ≤ men then mfl else mfl + 1) mrd (mwn + nI mm) (-1) 3 ) (cwV 1 hts (tw_V wi_584 wi_586 wi_15 wi_28 wi_587) rfl rfl rfl (by decide +kernel) ⟨Nat.le_of_ble_eq_true rfl, Nat.le_of_ble_eq_true rfl⟩) ⟨fun a U g mk q => ⟨q.1, q.2.1, tk_E.call q.2.2.1, q.2.2.2⟩, va_recv hK hP (ci := 4) (q0 := 0) rfl rfl, fun U hU hW => ⟨rfl, by rw [hU], tk_E.warm hW hE, by rw [hU]; exact hP, hD.weaken (fun _ _ _ _ => trivial)⟩⟩ rfl rfl hl.1 rfl (lv_room (Nat.le_of_ble_eq_true rfl)) dM_remake_50 ⟨Nat.zero_le _, Nat.zero_le _⟩) hS (fun q _ h => hFc q h) hFc (fun r_11 u_10 t H1 locs ht hvm hw hB hz1 hk1 hS => ?_)
          have hB : va_P (dC, dI) clB (mw h ad ka 3 mnw mcp mcb mcv mcl (stepF mbl (lsB mbl (secF mto np (nI u) mm) cpN cbN) (u + 1)) (stepF mpl (lsP mpl (secF mto np (nI u) mm) cpN) (u + 1)) (secF mfm np (nI b) mm) (secF mto np (nI u) mm) (fsF mfs np (rs1 (mst f0)) mm) (lsF mls np (rs1 (mst f0)) mm) (dropF (-1) mpg 12) mpn u1 mdi (upd mst f0 (rs1 (mst f0))) mbs 0 (if (plcF mcp mcl mpl (mpg f0) b (u - b)) ≤ men then men else (plcF mcp mcl mpl (mpg f0) b (u - b))) (if (plcF mcp mcl mpl (mpg f0) b (u - b)) ≤ men then mfl else mfl + 1) mrd (mwn + nI mm) (-1)) H1 := by rw [← ht]; exact hB
          obtain ⟨hP, hD⟩ := (⟨hB, mw_D hDw⟩ : va_P (dC, dI) clB (mw h ad ka 3 mnw mcp mcb mcv mcl (stepF mbl (lsB mbl (secF mto np (nI u) mm) cpN cbN) (u + 1)) (stepF mpl (lsP mpl (secF mto np (nI u) mm) cpN) (u + 1)) (secF mfm np (nI b) mm) (secF mto np (nI u) mm) (fsF mfs np (rs1 (mst f0)) mm) (lsF mls np (rs1 (mst f0)) mm) (dropF (-1) mpg 12) mpn u1 mdi (upd mst f0 (rs1 (mst f0))) mbs 0 (if (plcF mcp mcl mpl (mpg f0) b (u - b)) ≤ men then men else (plcF mcp mcl mpl (mpg f0) b (u - b))) (if (plcF mcp mcl mpl (mpg f0) b (u - b)) ≤ men then mfl else mfl + 1) mrd (mwn + nI mm) (-1)) H1 ∧ va_D A (mw h ad ka 3 mnw mcp mcb mcv mcl (stepF mbl (lsB mbl (secF mto np (nI u) mm) cpN cbN) (u + 1)) (stepF mpl (lsP mpl (secF mto np (nI u) mm) cpN) (u + 1)) (secF mfm np (nI b) mm) (secF mto np (nI u) mm) (fsF mfs np (rs1 (mst f0)) mm) (lsF mls np (rs1 (mst f0)) mm) (dropF (-1) mpg 12) mpn u1 mdi (upd mst f0 (rs1 (mst f0))) mbs 0 (if (plcF mcp mcl mpl (mpg f0) b (u - b)) ≤ men then men else (plcF mcp mcl mpl (mpg f0) b (u - b))) (if (plcF mcp mcl mpl (mpg f0) b (u - b)) ≤ men then mfl else mfl + 1) mrd (mwn + nI mm) (-1)))
          generalize H1 = H at hP hS ⊢
          have hP : va_P (dC, dI) clB (mw h ad ka 3 mnw mcp mcb mcv mcl (stepF mbl (lsB mbl (secF mto np (nI u) mm) cpN cbN) (u + 1)) (stepF mpl (lsP mpl (secF mto np (nI u) mm) cpN) (u + 1)) (secF mfm np (nI b) mm) (secF mto np (nI u) mm) (fsF mfs np (rs1 (mst f0)) mm) (lsF mls np (rs1 (mst f0)) mm) (dropF (-1) mpg 12) mpn u1 mdi (upd mst f0 (rs1 (mst f0))) mbs 0 (if (plcF mcp mcl mpl (mpg f0) b (u - b)) ≤ men then men else (plcF mcp mcl mpl (mpg f0) b (u - b))) (if (plcF mcp mcl mpl (mpg f0) b (u - b)) ≤ men then mfl else mfl + 1) mrd (mwn + nI mm) (-1)) H := hP
          have hD : va_D A (mw h ad ka 3 mnw mcp mcb mcv mcl (stepF mbl (lsB mbl (secF mto np (nI u) mm) cpN cbN) (u + 1)) (stepF mpl (lsP mpl (secF mto np (nI u) mm) cpN) (u + 1)) (secF mfm np (nI b) mm) (secF mto np (nI u) mm) (fsF mfs np (rs1 (mst f0)) mm) (lsF mls np (rs1 (mst f0)) mm) (dropF (-1) mpg 12) mpn u1 mdi (upd mst f0 (rs1 (mst f0))) mbs 0 (if (plcF mcp mcl mpl (mpg f0) b (u - b)) ≤ men then men else (plcF mcp mcl mpl (mpg f0) b (u - b))) (if (plcF mcp mcl mpl (mpg f0) b (u - b)) ≤ men then mfl else mfl + 1) mrd (mwn + nI mm) (-1)) := mw_D hDw
          subst hw
          exact W.iret (v := 0) hx hb hr (fun t ht hW => ⟨⟨0, (), rfl, rfl, by show va_P _ _ _ t.heap; rw [ht]; exact hP⟩, hS.F ht⟩) hS.2.2 dM_remake_53
      · exact absurd c_6 (by decide)
  · exact absurd c_2 (by decide)
