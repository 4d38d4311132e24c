theorem hbU_take {pn : Nat → Int32} {k : Nat} {s : (Nat → Int32) × Nat} (h : pn s.2 = 0 ∧ s.1 s.2 = 0) : hbU pn k s = s := by
  cases k with
  | zero => rfl
  | succ k => rw [hbU_succ, if_pos h]
theorem hbU_go {pn : Nat → Int32} {k : Nat} {s : (Nat → Int32) × Nat} {u1 : Nat → Int32} {f0 : Nat} (h : hbU pn k s = (u1, f0)) (ht : pn f0 = 0 ∧ u1 f0 = 0) (hn : ¬ (pn s.2 = 0 ∧ s.1 s.2 = 0)) : 0 < k ∧ hbU pn (k - 1) (upd s.1 s.2 (if pn s.2 = 0 then (if s.1 s.2 ≤ 0 then s.1 s.2 else s.1 s.2 - 1) else s.1 s.2), nxt s.2) = (u1, f0) := by
  cases k with
  | zero =>
    have e : s = (u1, f0) := h
    exact absurd (by rw [e]; exact ht) hn
  | succ j =>
    rw [hbU_succ, if_neg hn] at h
    exact ⟨by omega, h⟩
theorem dec_nn {x : Int32} (h : ¬ x < 0) (h0 : ¬ x = 0) : ¬ x - 1 < 0 ∧ ¬ x ≤ 0 := by
  obtain ⟨j, hj, e⟩ := nI_of h
  subst e
  cases j with
  | zero => exact absurd nI_0 h0
  | succ j => rw [nI_pred]; exact ⟨nI_pos (by omega), nI_nle (by omega) hj⟩
theorem upd_nn {f : Nat → Int32} {k : Nat} {x : Int32} (h : ∀ i, i < 12 → ¬ f i < 0) (hx : ¬ x < 0) : ∀ i, i < 12 → ¬ upd f k x i < 0 := by
  intro i hi
  by_cases e : i = k
  · subst e; rw [pk_us]; exact hx
  · rw [pk_un e]; exact h i hi
theorem s16_255 (v : Int32) : (v &&& 255).toInt16.toInt32 = v &&& 255 := by
  obtain ⟨j, hj, e⟩ := pk_andE v (m := 255) 8 rfl
  rw [e, nI_s16 (by omega)]

set_option maxHeartbeats 4000000 in
set_option maxRecDepth 100000 in
theorem c_M_found_e (l : Launch) (dC : Nat → ClassId) (dI : Nat → Nat → Nat) (ka : Nat → ClassId) (sz : Nat) (h : Nat) (ad : Nat → Nat) (mth mnw : Int32) (mcp mcb mcv mcl mbl mpl mfm mto mfs mls mpg mpn mus mdi mst mbs : Nat → Int32) (mhd men mfl mrd mwn mlf : Int32) (f0 : Nat) (hf0 : f0 < 12) (hfe : mpg f0 < 0) (hfl : ∀ j, j < f0 → ¬ mpg j < 0) : Met l yM_found wM_found ({ frames := 0, cells := 0, slots := 0, locals := 0 }) (va_Pc [.ref h] (fun U => U.heap.size = sz ∧ tk_E dC dI ka U ∧ va_P (dC, dI) clB (mw h ad ka mth mnw mcp mcb mcv mcl mbl mpl mfm mto mfs mls mpg mpn mus mdi mst mbs mhd men mfl mrd mwn mlf) U.heap ∧ va_D (fun _ => True) (mw h ad ka mth mnw mcp mcb mcv mcl mbl mpl mfm mto mfs mls mpg mpn mus mdi mst mbs mhd men mfl mrd mwn mlf))) (va_Qi (fun (r : Int32) (_ : Unit) => r = nI f0) (fun _ t => va_P (dC, dI) clB (mw h ad ka mth mnw mcp mcb mcv mcl mbl mpl mfm mto mfs mls mpg mpn mus mdi mst mbs mhd men mfl mrd mwn mlf) t.heap) (va_A (mw h ad ka mth mnw mcp mcb mcv mcl mbl mpl mfm mto mfs mls mpg mpn mus mdi mst mbs mhd men mfl mrd mwn mlf) sz)) 0 0 (va_A (mw h ad ka mth mnw mcp mcb mcv mcl mbl mpl mfm mto mfs mls mpg mpn mus mdi mst mbs mhd men mfl mrd mwn mlf) sz) := by
  refine Met.ofW (cc := cM_found) (maxL := 3) (ret := (some .int)) (by decide) rfl ?_
  intro p e s m args below meth c s₁ B hml hv
  obtain ⟨rfl, hsz, hE, hP, hD0⟩ := hv
  have hx := B.exec
  have hb := B.bytes
  have hr := B.returns
  have hts := atoms_spec (ws := wM_found) B.pre
  have hq : ∀ w ∈ lwg, w.before _ s = true := fun w h => hts w (List.mem_cons_of_mem _ h)
  have hown : s.vm.findClass RM = some m.cls := findClass_of_methodNamed B.named
  have hlocks := B.notSynchronized
  have hK := hE.1
  have hN := hE.2
  subst hsz
  have hD := hD0.self (sz := s.heap.size)
  generalize hAe : va_A (mw h ad ka mth mnw mcp mcb mcv mcl mbl mpl mfm mto mfs mls mpg mpn mus mdi mst mbs mhd men mfl mrd mwn mlf) s.heap.size = A at hD ⊢
  have hA : ∀ q : Nat, s.heap.size ≤ q → A q := fun q h => by rw [← hAe]; exact Or.inr h
  have hS : va_S A s.heap s.heap [] := va_S.rf
  have hDw := hD
  have hP : va_P (dC, dI) clB (mw h ad ka mth mnw mcp mcb mcv mcl mbl mpl mfm mto mfs mls mpg mpn mus mdi mst mbs mhd men mfl mrd mwn mlf) s.heap := hP
  have hl := lv_entry ([.ref h]) (n := 3) (Nat.le_of_ble_eq_true rfl)
  rw [lg_entry_eq]
  generalize (lg_sl ([.ref h]) ++ List.replicate (3 - (lg_sl ([.ref h])).length) Slot.unset).toArray = ls at hl ⊢
  have hl : lv_has ls 3 [(0, .ref h)] := hl
  refine lv_iconst (v := 0) hx hb dM_found_0 (by decide) ?_
  refine lv_istore_n (lv' := [(1, .int 0), (0, .ref h)]) hx hb dM_found_1 rfl hl (by decide) rfl (fun ls hl => ?_)
  refine tk_loop 2 (fun (n : Nat) (z : Nat) H locs ls => (z ≤ f0) ∧ (n = f0 - z) ∧ va_P (dC, dI) clB (mw h ad ka mth mnw mcp mcb mcv mcl mbl mpl mfm mto mfs mls mpg mpn mus mdi mst mbs mhd men mfl mrd mwn mlf) H ∧ va_D A (mw h ad ka mth mnw mcp mcb mcv mcl mbl mpl mfm mto mfs mls mpg mpn mus mdi mst mbs mhd men mfl mrd mwn mlf) ∧ va_S A s.heap H locs ∧ lv_has ls 3 [(0, .ref h), (1, .int (nI z))]) ?_ f0 0 ⟨Nat.zero_le _, rfl, hP, (mw_D hDw), hS, lv_sub hl [1, 0] rfl⟩
  skip
  intro n z H locs ls hI ih
  obtain ⟨hi, hn, hP, hD, hS, hl⟩ := hI
  refine lv_iload_n hx hb dM_found_2 rfl (lv_at hl 1 rfl) ?_
  refine lv_bipush (v := 12) hx hb dM_found_3 (by decide) ?_
  refine lv_icmp_ge (tgt := 25) hx hb dM_found_5 (by decide) (fun c_1 => ?_) (fun c_1 => ?_)
  · exact absurd ((nI_leI (a := 12) (b := z) (by decide) (by omega)).mp c_1) (by omega)
  · rcases Nat.lt_or_ge z f0 with hzf | hzf
    · refine lv_aload_n hx hb dM_found_8 rfl (lv_at hl 0 rfl) ?_
      refine va_get (D := (dC, dI)) (ci := 4) (v := .ref (ad 10)) (C := RM) (T := TM) (N := 24) hx hb hts (inC inM) hown hK hP 0 rfl rfl 12 (by decide) (hq _ wi_478) (fun _ h9 => h9) rfl dM_found_9 ?_
      refine lv_iload_n hx hb dM_found_12 rfl (lv_at hl 1 rfl) ?_
      refine tk_iald (n := z) hx hb hK hP 11 3 rfl rfl rfl (by omega) (by decide) dM_found_13 ?_
      refine lv_if_ge (tgt := 19) hx hb dM_found_14 (by decide) (fun c_2 => ?_) (fun c_2 => ?_)
      · refine lv_iinc (v := ((nI z) + 1)) (lv' := [(1, .int ((nI z) + 1)), (0, .ref h)]) hx hb dM_found_19 hl (k := 1) rfl rfl (by decide) rfl (fun ls hl => ?_)
        refine lv_goto (tgt := 2) hx hb dM_found_22 (by decide) ?_
        exact ih (n - 1) (z + 1) _ _ _ (by omega) ⟨by omega, by omega, hP, (mw_D hDw), hS, lv_sub hl [1, 0] (by rw [← nI_1 z]; rfl)⟩
      · exact absurd (Int32.not_lt.mp (hfl z hzf)) c_2
    · have ez : z = f0 := by omega
      refine lv_aload_n hx hb dM_found_8 rfl (lv_at hl 0 rfl) ?_
      refine va_get (D := (dC, dI)) (ci := 4) (v := .ref (ad 10)) (C := RM) (T := TM) (N := 24) hx hb hts (inC inM) hown hK hP 0 rfl rfl 12 (by decide) (hq _ wi_478) (fun _ h9 => h9) rfl dM_found_9 ?_
      refine lv_iload_n hx hb dM_found_12 rfl (lv_at hl 1 rfl) ?_
      refine tk_iald (n := z) hx hb hK hP 11 3 rfl rfl rfl (by omega) (by decide) dM_found_13 ?_
      refine lv_if_ge (tgt := 19) hx hb dM_found_14 (by decide) (fun c_3 => ?_) (fun c_3 => ?_)
      · exact absurd (by rw [ez]; exact hfe) (Int32.not_lt.mpr c_3)
      · refine lv_iload_n hx hb dM_found_17 rfl (lv_at hl 1 rfl) ?_
        exact W.iret (v := (nI z)) hx hb hr (fun t ht hW => ⟨⟨(nI z), (), rfl, (by rw [ez]), by show va_P _ _ _ t.heap; rw [ht]; exact hP⟩, hS.F ht⟩) hS.2.2 dM_found_18

set_option maxHeartbeats 4000000 in
set_option maxRecDepth 100000 in
theorem c_M_found_c (l : Launch) (dC : Nat → ClassId) (dI : Nat → Nat → Nat) (ka : Nat → ClassId) (sz : Nat) (h : Nat) (ad : Nat → Nat) (mth mnw : Int32) (mcp mcb mcv mcl mbl mpl mfm mto mfs mls mpg mpn mus mdi mst mbs : Nat → Int32) (men mfl mrd mwn mlf : Int32) (q : Nat) (f0 : Nat) (u1 : Nat → Int32) (hall : ∀ i, i < 12 → ¬ mpg i < 0) (hq0 : q < 12) (hf0 : f0 < 12) (hus0 : ∀ i, i < 12 → ¬ mus i < 0) (hHB : hbU mpn 48 (mus, q) = (u1, f0)) (htk : mpn f0 = 0 ∧ u1 f0 = 0) (hd0 : mdi f0 = 0) : Met l yM_found wM_found ({ frames := 0, cells := 0, slots := 0, locals := 0 }) (va_Pc [.ref h] (fun U => U.heap.size = sz ∧ tk_E dC dI ka U ∧ va_P (dC, dI) clB (mw h ad ka mth mnw mcp mcb mcv mcl mbl mpl mfm mto mfs mls mpg mpn mus mdi mst mbs (nI q) men mfl mrd mwn mlf) U.heap ∧ va_D (fun _ => True) (mw h ad ka mth mnw mcp mcb mcv mcl mbl mpl mfm mto mfs mls mpg mpn mus mdi mst mbs (nI q) men mfl mrd mwn mlf))) (va_Qi (fun (r : Int32) (_ : Unit) => r = nI f0) (fun _ t => va_P (dC, dI) clB (mw h ad ka mth mnw mcp mcb mcv mcl mbl mpl mfm mto mfs mls mpg mpn u1 mdi mst mbs (nI (nxt f0)) men mfl mrd mwn mlf) t.heap) (va_A (mw h ad ka mth mnw mcp mcb mcv mcl mbl mpl mfm mto mfs mls mpg mpn mus mdi mst mbs (nI q) men mfl mrd mwn mlf) sz)) 0 0 (va_A (mw h ad ka mth mnw mcp mcb mcv mcl mbl mpl mfm mto mfs mls mpg mpn mus mdi mst mbs (nI q) men mfl mrd mwn mlf) sz) := by
  refine Met.ofW (cc := cM_found) (maxL := 3) (ret := (some .int)) (by decide) rfl ?_
  intro p e s m args below meth c s₁ B hml hv
  obtain ⟨rfl, hsz, hE, hP, hD0⟩ := hv
  have hx := B.exec
  have hb := B.bytes
  have hr := B.returns
  have hts := atoms_spec (ws := wM_found) B.pre
  have hq : ∀ w ∈ lwg, w.before _ s = true := fun w h => hts w (List.mem_cons_of_mem _ h)
  have hown : s.vm.findClass RM = some m.cls := findClass_of_methodNamed B.named
  have hlocks := B.notSynchronized
  have hK := hE.1
  have hN := hE.2
  subst hsz
  have hD := hD0.self (sz := s.heap.size)
  generalize hAe : va_A (mw h ad ka mth mnw mcp mcb mcv mcl mbl mpl mfm mto mfs mls mpg mpn mus mdi mst mbs (nI q) men mfl mrd mwn mlf) s.heap.size = A at hD ⊢
  have hA : ∀ q : Nat, s.heap.size ≤ q → A q := fun q h => by rw [← hAe]; exact Or.inr h
  have hS : va_S A s.heap s.heap [] := va_S.rf
  have hDw := hD
  have hP : va_P (dC, dI) clB (mw h ad ka mth mnw mcp mcb mcv mcl mbl mpl mfm mto mfs mls mpg mpn mus mdi mst mbs (nI q) men mfl mrd mwn mlf) s.heap := hP
  have hl := lv_entry ([.ref h]) (n := 3) (Nat.le_of_ble_eq_true rfl)
  rw [lg_entry_eq]
  generalize (lg_sl ([.ref h]) ++ List.replicate (3 - (lg_sl ([.ref h])).length) Slot.unset).toArray = ls at hl ⊢
  have hl : lv_has ls 3 [(0, .ref h)] := hl
  refine lv_iconst (v := 0) hx hb dM_found_0 (by decide) ?_
  refine lv_istore_n (lv' := [(1, .int 0), (0, .ref h)]) hx hb dM_found_1 rfl hl (by decide) rfl (fun ls hl => ?_)
  refine tk_loop 2 (fun (n : Nat) (z : Nat) H locs ls => (z ≤ 12) ∧ (n = 12 - z) ∧ va_P (dC, dI) clB (mw h ad ka mth mnw mcp mcb mcv mcl mbl mpl mfm mto mfs mls mpg mpn mus mdi mst mbs (nI q) men mfl mrd mwn mlf) H ∧ va_D A (mw h ad ka mth mnw mcp mcb mcv mcl mbl mpl mfm mto mfs mls mpg mpn mus mdi mst mbs (nI q) men mfl mrd mwn mlf) ∧ va_S A s.heap H locs ∧ lv_has ls 3 [(0, .ref h), (1, .int (nI z))]) ?_ 12 0 ⟨Nat.zero_le _, rfl, hP, (mw_D hDw), hS, lv_sub hl [1, 0] rfl⟩
  skip
  intro n z H locs ls hI ih
  obtain ⟨hi, hn, hP, hD, hS, hl⟩ := hI
  refine lv_iload_n hx hb dM_found_2 rfl (lv_at hl 1 rfl) ?_
  refine lv_bipush (v := 12) hx hb dM_found_3 (by decide) ?_
  refine lv_icmp_ge (tgt := 25) hx hb dM_found_5 (by decide) (fun c_1 => ?_) (fun c_1 => ?_)
  · refine lv_iconst (v := (-1)) hx hb dM_found_25 (by decide) ?_
    refine lv_istore_n (lv' := [(1, .int (-1)), (0, .ref h)]) hx hb dM_found_26 rfl hl (by decide) rfl (fun ls hl => ?_)
    refine lv_iconst (v := 0) hx hb dM_found_27 (by decide) ?_
    refine lv_istore_n (lv' := [(2, .int 0), (1, .int (-1)), (0, .ref h)]) hx hb dM_found_28 rfl hl (by decide) rfl (fun ls hl => ?_)
    refine tk_loop 29 (fun (n : Nat) (y : Nat × Int32 × ((Nat → Int32) × Nat)) H locs ls => (y.1 ≤ 49) ∧ (n = 60 - y.1) ∧ ((y.2.1 = -1 ∧ y.1 ≤ 48 ∧ y.2.2.2 < 12 ∧ (∀ i, i < 12 → ¬ y.2.2.1 i < 0) ∧ hbU mpn (48 - y.1) y.2.2 = (u1, f0)) ∨ (y.2.1 = nI f0 ∧ y.2.2 = (u1, nxt f0))) ∧ va_P (dC, dI) clB (mw h ad ka mth mnw mcp mcb mcv mcl mbl mpl mfm mto mfs mls mpg mpn y.2.2.1 mdi mst mbs (nI y.2.2.2) men mfl mrd mwn mlf) H ∧ va_D A (mw h ad ka mth mnw mcp mcb mcv mcl mbl mpl mfm mto mfs mls mpg mpn y.2.2.1 mdi mst mbs (nI y.2.2.2) men mfl mrd mwn mlf) ∧ va_S A s.heap H locs ∧ lv_has ls 3 [(0, .ref h), (1, .int (y.2.1)), (2, .int (nI y.1))]) ?_ 60 (0, -1, (mus, q)) ⟨Nat.zero_le _, rfl, Or.inl ⟨rfl, Nat.zero_le _, hq0, hus0, hHB⟩, hP, (mw_D hDw), hS, lv_sub hl [2, 1, 0] rfl⟩
    skip
    intro n y H locs ls hI ih
    obtain ⟨hi, hn, hdis, hP, hD, hS, hl⟩ := hI
    refine lv_iload_n hx hb dM_found_29 rfl (lv_at hl 2 rfl) ?_
    refine lv_bipush (v := 60) hx hb dM_found_30 (by decide) ?_
    refine lv_icmp_ge (tgt := 115) hx hb dM_found_32 (by decide) (fun c_2 => ?_) (fun c_2 => ?_)
    · exact absurd ((nI_leI (a := 60) (b := y.1) (by decide) (by omega)).mp c_2) (by omega)
    · refine lv_iload_n hx hb dM_found_35 rfl (lv_at hl 1 rfl) ?_
      refine lv_if_ge (tgt := 115) hx hb dM_found_36 (by decide) (fun c_3 => ?_) (fun c_3 => ?_)
      · have hfin := hdis.resolve_left (fun h9 => absurd c_3 (by rw [h9.1]; decide))
        have ef := hfin.1
        have e1 : y.2.2.1 = u1 := by rw [hfin.2]
        have e2 : y.2.2.2 = nxt f0 := by rw [hfin.2]
        rw [e1, e2] at hP
        have hP : va_P (dC, dI) clB (mw h ad ka mth mnw mcp mcb mcv mcl mbl mpl mfm mto mfs mls mpg mpn u1 mdi mst mbs (nI (nxt f0)) men mfl mrd mwn mlf) H := hP
        have hD : va_D A (mw h ad ka mth mnw mcp mcb mcv mcl mbl mpl mfm mto mfs mls mpg mpn u1 mdi mst mbs (nI (nxt f0)) men mfl mrd mwn mlf) := mw_D hDw
        refine lv_aload_n hx hb dM_found_115 rfl (lv_at hl 0 rfl) ?_
        refine va_get (D := (dC, dI)) (ci := 4) (v := .ref (ad 13)) (C := RM) (T := TM) (N := 24) hx hb hts (inC inM) hown hK hP 0 rfl rfl 15 (by decide) (hq _ wi_481) (fun _ h9 => h9) rfl dM_found_116 ?_
        refine lv_iload_n hx hb dM_found_119 rfl (lv_at hl 1 rfl) ?_
        refine tk_zald (n := f0) hx hb hK hP 14 4 rfl rfl ef hf0 (by decide) dM_found_120 ?_
        refine lv_if_eq (tgt := 136) hx hb dM_found_121 (by decide) (fun c_4 => ?_) (fun c_4 => ?_)
        · refine lv_iload_n hx hb dM_found_136 rfl (lv_at hl 1 rfl) ?_
          exact W.iret (v := y.2.1) hx hb hr (fun t ht hW => ⟨⟨y.2.1, (), rfl, ef, by show va_P _ _ _ t.heap; rw [ht]; exact hP⟩, hS.F ht⟩) hS.2.2 dM_found_137
        · exact absurd hd0 c_4
      · obtain ⟨eg, hk48, hh, hus, hhb⟩ := hdis.resolve_right (fun h9 => c_3 (by rw [h9.1]; exact nI_pos' (by omega)))
        refine lv_aload_n hx hb dM_found_39 rfl (lv_at hl 0 rfl) ?_
        refine va_get (D := (dC, dI)) (ci := 4) (v := .ref (ad 11)) (C := RM) (T := TM) (N := 24) hx hb hts (inC inM) hown hK hP 0 rfl rfl 13 (by decide) (hq _ wi_479) (fun _ h9 => h9) rfl dM_found_40 ?_
        refine lv_aload_n hx hb dM_found_43 rfl (lv_at hl 0 rfl) ?_
        refine va_get (D := (dC, dI)) (ci := 4) (v := .int (nI y.2.2.2)) (C := RM) (T := TM) (N := 24) hx hb hts (inC inM) hown hK hP 0 rfl rfl 18 (by decide) (hq _ wi_484) (fun _ h9 => h9) rfl dM_found_44 ?_
        refine tk_iald (n := y.2.2.2) hx hb hK hP 12 3 rfl rfl rfl hh (by decide) dM_found_47 ?_
        refine lv_if_ne (tgt := 71) hx hb dM_found_48 (by decide) (fun c_5 => ?_) (fun c_5 => ?_)
        · refine lv_aload_n hx hb dM_found_71 rfl (lv_at hl 0 rfl) ?_
          refine va_get (D := (dC, dI)) (ci := 4) (v := .ref (ad 11)) (C := RM) (T := TM) (N := 24) hx hb hts (inC inM) hown hK hP 0 rfl rfl 13 (by decide) (hq _ wi_479) (fun _ h9 => h9) rfl dM_found_72 ?_
          refine lv_aload_n hx hb dM_found_75 rfl (lv_at hl 0 rfl) ?_
          refine va_get (D := (dC, dI)) (ci := 4) (v := .int (nI y.2.2.2)) (C := RM) (T := TM) (N := 24) hx hb hts (inC inM) hown hK hP 0 rfl rfl 18 (by decide) (hq _ wi_484) (fun _ h9 => h9) rfl dM_found_76 ?_
          refine tk_iald (n := y.2.2.2) hx hb hK hP 12 3 rfl rfl rfl hh (by decide) dM_found_79 ?_
          refine lv_if_ne (tgt := 96) hx hb dM_found_80 (by decide) (fun c_6 => ?_) (fun c_6 => ?_)
          · refine lv_aload_n hx hb dM_found_96 rfl (lv_at hl 0 rfl) ?_
            refine lv_aload_n hx hb dM_found_97 rfl (lv_at hl 0 rfl) ?_
            refine va_get (D := (dC, dI)) (ci := 4) (v := .int (nI y.2.2.2)) (C := RM) (T := TM) (N := 24) hx hb hts (inC inM) hown hK hP 0 rfl rfl 18 (by decide) (hq _ wi_484) (fun _ h9 => h9) rfl dM_found_98 ?_
            refine lv_iconst (v := 1) hx hb dM_found_101 (by decide) ?_
            refine lv_iadd hx hb dM_found_102 ?_
            refine lv_bipush (v := 12) hx hb dM_found_103 (by decide) ?_
            refine lv_irem hx hb dM_found_105 (by decide) ?_
            refine va_put (D := (dC, dI)) (ci := 4) (v := .int (((nI y.2.2.2) + 1) - ((nI y.2.2.2) + 1) / 12 * 12)) (ty := .int) (C := RM) (T := TM) (N := 24) hx hb hts (inC inM) tyM tyM_ok nmM hown hK hP hD hS 0 rfl rfl 18 (by decide) (hq _ wi_484) (fun _ h9 => h9) rfl (by decide +kernel) rfl rfl (Nat.le_of_ble_eq_true rfl) dM_found_106 (fun H locs hP hD hS => ?_)
            have hP : va_P (dC, dI) clB (mw h ad ka mth mnw mcp mcb mcv mcl mbl mpl mfm mto mfs mls mpg mpn y.2.2.1 mdi mst mbs (((nI y.2.2.2) + 1) - ((nI y.2.2.2) + 1) / 12 * 12) men mfl mrd mwn mlf) H := hP
            have hD : va_D A (mw h ad ka mth mnw mcp mcb mcv mcl mbl mpl mfm mto mfs mls mpg mpn y.2.2.1 mdi mst mbs (((nI y.2.2.2) + 1) - ((nI y.2.2.2) + 1) / 12 * 12) men mfl mrd mwn mlf) := mw_D hDw
            refine lv_iinc (v := ((nI y.1) + 1)) (lv' := [(2, .int ((nI y.1) + 1)), (0, .ref h), (1, .int (y.2.1))]) hx hb dM_found_109 hl (k := 2) rfl rfl (by decide) rfl (fun ls hl => ?_)
            refine lv_goto (tgt := 29) hx hb dM_found_112 (by decide) ?_
            have hgo := hbU_go hhb htk (fun h9 => c_5 h9.1)
            exact ih (n - 1) (y.1 + 1, y.2.1, (y.2.2.1, nxt y.2.2.2)) _ _ _ (by omega) ⟨by show y.1 + 1 ≤ 49; omega, by show n - 1 = 60 - (y.1 + 1); omega, Or.inl ⟨eg, by show y.1 + 1 ≤ 48; omega, nxt_lt, hus, by have h9 := hgo.2; rw [if_neg c_5, upd_id] at h9; rw [show 48 - y.1 - 1 = 48 - (y.1 + 1) by omega] at h9; exact h9⟩, (by rw [← nxt_rem hh]; exact hP), (mw_D hDw), hS, lv_sub hl [1, 2, 0] (by rw [← nI_1 y.1]; rfl)⟩
          · exact absurd c_6 c_5
        · refine lv_aload_n hx hb dM_found_51 rfl (lv_at hl 0 rfl) ?_
          refine va_get (D := (dC, dI)) (ci := 4) (v := .ref (ad 12)) (C := RM) (T := TM) (N := 24) hx hb hts (inC inM) hown hK hP 0 rfl rfl 14 (by decide) (hq _ wi_480) (fun _ h9 => h9) rfl dM_found_52 ?_
          refine lv_aload_n hx hb dM_found_55 rfl (lv_at hl 0 rfl) ?_
          refine va_get (D := (dC, dI)) (ci := 4) (v := .int (nI y.2.2.2)) (C := RM) (T := TM) (N := 24) hx hb hts (inC inM) hown hK hP 0 rfl rfl 18 (by decide) (hq _ wi_484) (fun _ h9 => h9) rfl dM_found_56 ?_
          refine tk_iald (n := y.2.2.2) hx hb hK hP 13 3 rfl rfl rfl hh (by decide) dM_found_59 ?_
          refine lv_if_ne (tgt := 71) hx hb dM_found_60 (by decide) (fun c_7 => ?_) (fun c_7 => ?_)
          · refine lv_aload_n hx hb dM_found_71 rfl (lv_at hl 0 rfl) ?_
            refine va_get (D := (dC, dI)) (ci := 4) (v := .ref (ad 11)) (C := RM) (T := TM) (N := 24) hx hb hts (inC inM) hown hK hP 0 rfl rfl 13 (by decide) (hq _ wi_479) (fun _ h9 => h9) rfl dM_found_72 ?_
            refine lv_aload_n hx hb dM_found_75 rfl (lv_at hl 0 rfl) ?_
            refine va_get (D := (dC, dI)) (ci := 4) (v := .int (nI y.2.2.2)) (C := RM) (T := TM) (N := 24) hx hb hts (inC inM) hown hK hP 0 rfl rfl 18 (by decide) (hq _ wi_484) (fun _ h9 => h9) rfl dM_found_76 ?_
            refine tk_iald (n := y.2.2.2) hx hb hK hP 12 3 rfl rfl rfl hh (by decide) dM_found_79 ?_
            refine lv_if_ne (tgt := 96) hx hb dM_found_80 (by decide) (fun c_8 => ?_) (fun c_8 => ?_)
            · exact absurd c_5 c_8
            · refine lv_aload_n hx hb dM_found_83 rfl (lv_at hl 0 rfl) ?_
              refine va_get (D := (dC, dI)) (ci := 4) (v := .ref (ad 12)) (C := RM) (T := TM) (N := 24) hx hb hts (inC inM) hown hK hP 0 rfl rfl 14 (by decide) (hq _ wi_480) (fun _ h9 => h9) rfl dM_found_84 ?_
              refine lv_aload_n hx hb dM_found_87 rfl (lv_at hl 0 rfl) ?_
              refine va_get (D := (dC, dI)) (ci := 4) (v := .int (nI y.2.2.2)) (C := RM) (T := TM) (N := 24) hx hb hts (inC inM) hown hK hP 0 rfl rfl 18 (by decide) (hq _ wi_484) (fun _ h9 => h9) rfl dM_found_88 ?_
              refine lv_dup2_11 hx hb dM_found_91 rfl rfl ?_
              refine tk_iald (n := y.2.2.2) hx hb hK hP 13 3 rfl rfl rfl hh (by decide) dM_found_92 ?_
              refine lv_iconst (v := 1) hx hb dM_found_93 (by decide) ?_
              refine lv_isub hx hb dM_found_94 ?_
              refine tk_iast (n := y.2.2.2) hx hb hK hP hD hS 13 3 rfl rfl rfl hh (by decide) dM_found_95 (fun H locs hP hD hS => ?_)
              have hP : va_P (dC, dI) clB (mw h ad ka mth mnw mcp mcb mcv mcl mbl mpl mfm mto mfs mls mpg mpn (upd y.2.2.1 y.2.2.2 ((y.2.2.1 y.2.2.2) - 1)) mdi mst mbs (nI y.2.2.2) men mfl mrd mwn mlf) H := hP
              have hD : va_D A (mw h ad ka mth mnw mcp mcb mcv mcl mbl mpl mfm mto mfs mls mpg mpn (upd y.2.2.1 y.2.2.2 ((y.2.2.1 y.2.2.2) - 1)) mdi mst mbs (nI y.2.2.2) men mfl mrd mwn mlf) := mw_D hDw
              refine lv_aload_n hx hb dM_found_96 rfl (lv_at hl 0 rfl) ?_
              refine lv_aload_n hx hb dM_found_97 rfl (lv_at hl 0 rfl) ?_
              refine va_get (D := (dC, dI)) (ci := 4) (v := .int (nI y.2.2.2)) (C := RM) (T := TM) (N := 24) hx hb hts (inC inM) hown hK hP 0 rfl rfl 18 (by decide) (hq _ wi_484) (fun _ h9 => h9) rfl dM_found_98 ?_
              refine lv_iconst (v := 1) hx hb dM_found_101 (by decide) ?_
              refine lv_iadd hx hb dM_found_102 ?_
              refine lv_bipush (v := 12) hx hb dM_found_103 (by decide) ?_
              refine lv_irem hx hb dM_found_105 (by decide) ?_
              refine va_put (D := (dC, dI)) (ci := 4) (v := .int (((nI y.2.2.2) + 1) - ((nI y.2.2.2) + 1) / 12 * 12)) (ty := .int) (C := RM) (T := TM) (N := 24) hx hb hts (inC inM) tyM tyM_ok nmM hown hK hP hD hS 0 rfl rfl 18 (by decide) (hq _ wi_484) (fun _ h9 => h9) rfl (by decide +kernel) rfl rfl (Nat.le_of_ble_eq_true rfl) dM_found_106 (fun H locs hP hD hS => ?_)
              have hP : va_P (dC, dI) clB (mw h ad ka mth mnw mcp mcb mcv mcl mbl mpl mfm mto mfs mls mpg mpn (upd y.2.2.1 y.2.2.2 ((y.2.2.1 y.2.2.2) - 1)) mdi mst mbs (((nI y.2.2.2) + 1) - ((nI y.2.2.2) + 1) / 12 * 12) men mfl mrd mwn mlf) H := hP
              have hD : va_D A (mw h ad ka mth mnw mcp mcb mcv mcl mbl mpl mfm mto mfs mls mpg mpn (upd y.2.2.1 y.2.2.2 ((y.2.2.1 y.2.2.2) - 1)) mdi mst mbs (((nI y.2.2.2) + 1) - ((nI y.2.2.2) + 1) / 12 * 12) men mfl mrd mwn mlf) := mw_D hDw
              refine lv_iinc (v := ((nI y.1) + 1)) (lv' := [(2, .int ((nI y.1) + 1)), (0, .ref h), (1, .int (y.2.1))]) hx hb dM_found_109 hl (k := 2) rfl rfl (by decide) rfl (fun ls hl => ?_)
              refine lv_goto (tgt := 29) hx hb dM_found_112 (by decide) ?_
              have hgo := hbU_go hhb htk (fun h9 => c_7 h9.2)
              have hdn := dec_nn (hus _ hh) c_7
              exact ih (n - 1) (y.1 + 1, y.2.1, (upd y.2.2.1 y.2.2.2 ((y.2.2.1 y.2.2.2) - 1), nxt y.2.2.2)) _ _ _ (by omega) ⟨by show y.1 + 1 ≤ 49; omega, by show n - 1 = 60 - (y.1 + 1); omega, Or.inl ⟨eg, by show y.1 + 1 ≤ 48; omega, nxt_lt, upd_nn hus hdn.1, by have h9 := hgo.2; rw [if_pos c_5, if_neg hdn.2] at h9; rw [show 48 - y.1 - 1 = 48 - (y.1 + 1) by omega] at h9; exact h9⟩, (by rw [← nxt_rem hh]; exact hP), (mw_D hDw), hS, lv_sub hl [1, 2, 0] (by rw [← nI_1 y.1]; rfl)⟩
          · refine lv_aload_n hx hb dM_found_63 rfl (lv_at hl 0 rfl) ?_
            refine va_get (D := (dC, dI)) (ci := 4) (v := .int (nI y.2.2.2)) (C := RM) (T := TM) (N := 24) hx hb hts (inC inM) hown hK hP 0 rfl rfl 18 (by decide) (hq _ wi_484) (fun _ h9 => h9) rfl dM_found_64 ?_
            refine lv_istore_n (lv' := [(1, .int (nI y.2.2.2)), (0, .ref h), (2, .int (nI y.1))]) hx hb dM_found_67 rfl hl (by decide) rfl (fun ls hl => ?_)
            refine lv_goto (tgt := 96) hx hb dM_found_68 (by decide) ?_
            refine lv_aload_n hx hb dM_found_96 rfl (lv_at hl 1 rfl) ?_
            refine lv_aload_n hx hb dM_found_97 rfl (lv_at hl 1 rfl) ?_
            refine va_get (D := (dC, dI)) (ci := 4) (v := .int (nI y.2.2.2)) (C := RM) (T := TM) (N := 24) hx hb hts (inC inM) hown hK hP 0 rfl rfl 18 (by decide) (hq _ wi_484) (fun _ h9 => h9) rfl dM_found_98 ?_
            refine lv_iconst (v := 1) hx hb dM_found_101 (by decide) ?_
            refine lv_iadd hx hb dM_found_102 ?_
            refine lv_bipush (v := 12) hx hb dM_found_103 (by decide) ?_
            refine lv_irem hx hb dM_found_105 (by decide) ?_
            refine va_put (D := (dC, dI)) (ci := 4) (v := .int (((nI y.2.2.2) + 1) - ((nI y.2.2.2) + 1) / 12 * 12)) (ty := .int) (C := RM) (T := TM) (N := 24) hx hb hts (inC inM) tyM tyM_ok nmM hown hK hP hD hS 0 rfl rfl 18 (by decide) (hq _ wi_484) (fun _ h9 => h9) rfl (by decide +kernel) rfl rfl (Nat.le_of_ble_eq_true rfl) dM_found_106 (fun H locs hP hD hS => ?_)
            have hP : va_P (dC, dI) clB (mw h ad ka mth mnw mcp mcb mcv mcl mbl mpl mfm mto mfs mls mpg mpn y.2.2.1 mdi mst mbs (((nI y.2.2.2) + 1) - ((nI y.2.2.2) + 1) / 12 * 12) men mfl mrd mwn mlf) H := hP
            have hD : va_D A (mw h ad ka mth mnw mcp mcb mcv mcl mbl mpl mfm mto mfs mls mpg mpn y.2.2.1 mdi mst mbs (((nI y.2.2.2) + 1) - ((nI y.2.2.2) + 1) / 12 * 12) men mfl mrd mwn mlf) := mw_D hDw
            refine lv_iinc (v := ((nI y.1) + 1)) (lv' := [(2, .int ((nI y.1) + 1)), (1, .int (nI y.2.2.2)), (0, .ref h)]) hx hb dM_found_109 hl (k := 2) rfl rfl (by decide) rfl (fun ls hl => ?_)
            refine lv_goto (tgt := 29) hx hb dM_found_112 (by decide) ?_
            have hy : y.2.2 = (u1, f0) := (hbU_take (k := 48 - y.1) ⟨c_5, c_7⟩).symm.trans hhb
            exact ih (n - 1) (y.1 + 1, nI y.2.2.2, (y.2.2.1, nxt y.2.2.2)) _ _ _ (by omega) ⟨by show y.1 + 1 ≤ 49; omega, by show n - 1 = 60 - (y.1 + 1); omega, Or.inr ⟨by show nI y.2.2.2 = _; rw [hy], by show (y.2.2.1, nxt y.2.2.2) = _; rw [hy]⟩, (by rw [← nxt_rem hh]; exact hP), (mw_D hDw), hS, lv_sub hl [2, 1, 0] (by rw [← nI_1 y.1]; rfl)⟩
  · have hz : z < 12 := by have := mt (nI_leI (a := 12) (b := z) (by decide) (by omega)).mpr c_1; omega
    refine lv_aload_n hx hb dM_found_8 rfl (lv_at hl 0 rfl) ?_
    refine va_get (D := (dC, dI)) (ci := 4) (v := .ref (ad 10)) (C := RM) (T := TM) (N := 24) hx hb hts (inC inM) hown hK hP 0 rfl rfl 12 (by decide) (hq _ wi_478) (fun _ h9 => h9) rfl dM_found_9 ?_
    refine lv_iload_n hx hb dM_found_12 rfl (lv_at hl 1 rfl) ?_
    refine tk_iald (n := z) hx hb hK hP 11 3 rfl rfl rfl (by omega) (by decide) dM_found_13 ?_
    refine lv_if_ge (tgt := 19) hx hb dM_found_14 (by decide) (fun c_9 => ?_) (fun c_9 => ?_)
    · refine lv_iinc (v := ((nI z) + 1)) (lv' := [(1, .int ((nI z) + 1)), (0, .ref h)]) hx hb dM_found_19 hl (k := 1) rfl rfl (by decide) rfl (fun ls hl => ?_)
      refine lv_goto (tgt := 2) hx hb dM_found_22 (by decide) ?_
      exact ih (n - 1) (z + 1) _ _ _ (by omega) ⟨by omega, by omega, hP, (mw_D hDw), hS, lv_sub hl [1, 0] (by rw [← nI_1 z]; rfl)⟩
    · exact absurd (Int32.not_lt.mp (hall z hz)) c_9

set_option maxHeartbeats 4000000 in
set_option maxRecDepth 100000 in
theorem c_M_found_d (l : Launch) (dC : Nat → ClassId) (dI : Nat → Nat → Nat) (ka : Nat → ClassId) (sz : Nat) (h : Nat) (ad : Nat → Nat) (mth mnw : Int32) (mcp mcb mcv mcl mbl mpl mfm mto mfs mls mpg mpn mus mdi mst mbs : Nat → Int32) (men mfl mrd mwn mlf : Int32) (q : Nat) (f0 np b u : Nat) (u1 : Nat → Int32) (hall : ∀ i, i < 12 → ¬ mpg i < 0) (hq0 : q < 12) (hf0 : f0 < 12) (hus0 : ∀ i, i < 12 → ¬ mus i < 0) (hHB : hbU mpn 48 (mus, q) = (u1, f0)) (htk : mpn f0 = 0 ∧ u1 f0 = 0) (hd0 : ¬ mdi f0 = 0) (hpg : mpg f0 = nI np) (hnp : np < 192) (eb : mbs f0 = nI b) (eu : mnw = nI u) (hbu : b ≤ u) (hu : u < 520) (hok : ∀ z, z < 8 → ¬ mlA mlf z = 0) : Met l yM_found wM_found ({ frames := 3, cells := 0, slots := 0, locals := 70 }) (va_Pc [.ref h] (fun U => U.heap.size = sz ∧ tk_E dC dI ka U ∧ va_P (dC, dI) clB (mw h ad ka mth mnw mcp mcb mcv mcl mbl mpl mfm mto mfs mls mpg mpn mus mdi mst mbs (nI q) men mfl mrd mwn mlf) U.heap ∧ va_D (fun _ => True) (mw h ad ka mth mnw mcp mcb mcv mcl mbl mpl mfm mto mfs mls mpg mpn mus mdi mst mbs (nI q) men mfl mrd mwn mlf))) (va_Qi (fun (r : Int32) (_ : Unit) => r = nI f0) (fun _ t => va_P (dC, dI) clB (mw h ad ka mth mnw mcp mcb mcv mcl mbl mpl (secF mfm np (nI b) 8) (secF mto np (nI u) 8) (fsF mfs np (rs1 (mst f0)) 8) (lsF mls np (rs1 (mst f0)) 8) mpg mpn u1 (upd mdi f0 0) (upd mst f0 (rs1 (mst f0))) mbs (nI (nxt f0)) (if (plcF mcp mcl mpl (mpg f0) b (u - b)) ≤ men then men else (plcF mcp mcl mpl (mpg f0) b (u - b))) (if (plcF mcp mcl mpl (mpg f0) b (u - b)) ≤ men then mfl else mfl + 1) mrd (mwn + nI 8) (mlA mlf 8)) t.heap) (va_A (mw h ad ka mth mnw mcp mcb mcv mcl mbl mpl mfm mto mfs mls mpg mpn mus mdi mst mbs (nI q) men mfl mrd mwn mlf) sz)) 0 0 (va_A (mw h ad ka mth mnw mcp mcb mcv mcl mbl mpl mfm mto mfs mls mpg mpn mus mdi mst mbs (nI q) men mfl mrd mwn mlf) sz) := by
  refine Met.ofW (cc := cM_found) (maxL := 3) (ret := (some .int)) (by decide) rfl ?_
  intro p e s m args below meth c s₁ B hml hv
  obtain ⟨rfl, hsz, hE, hP, hD0⟩ := hv
  have hx := B.exec
  have hb := B.bytes
  have hr := B.returns
  have hts := atoms_spec (ws := wM_found) B.pre
  have hq : ∀ w ∈ lwg, w.before _ s = true := fun w h => hts w (List.mem_cons_of_mem _ h)
  have hown : s.vm.findClass RM = some m.cls := findClass_of_methodNamed B.named
  have hlocks := B.notSynchronized
  have hK := hE.1
  have hN := hE.2
  subst hsz
  have hD := hD0.self (sz := s.heap.size)
  generalize hAe : va_A (mw h ad ka mth mnw mcp mcb mcv mcl mbl mpl mfm mto mfs mls mpg mpn mus mdi mst mbs (nI q) men mfl mrd mwn mlf) s.heap.size = A at hD ⊢
  have hA : ∀ q : Nat, s.heap.size ≤ q → A q := fun q h => by rw [← hAe]; exact Or.inr h
  have hS : va_S A s.heap s.heap [] := va_S.rf
  have hDw := hD
  have hP : va_P (dC, dI) clB (mw h ad ka mth mnw mcp mcb mcv mcl mbl mpl mfm mto mfs mls mpg mpn mus mdi mst mbs (nI q) men mfl mrd mwn mlf) s.heap := hP
  have hl := lv_entry ([.ref h]) (n := 3) (Nat.le_of_ble_eq_true rfl)
  rw [lg_entry_eq]
  generalize (lg_sl ([.ref h]) ++ List.replicate (3 - (lg_sl ([.ref h])).length) Slot.unset).toArray = ls at hl ⊢
  have hl : lv_has ls 3 [(0, .ref h)] := hl
  refine lv_iconst (v := 0) hx hb dM_found_0 (by decide) ?_
  refine lv_istore_n (lv' := [(1, .int 0), (0, .ref h)]) hx hb dM_found_1 rfl hl (by decide) rfl (fun ls hl => ?_)
  refine tk_loop 2 (fun (n : Nat) (z : Nat) H locs ls => (z ≤ 12) ∧ (n = 12 - z) ∧ va_P (dC, dI) clB (mw h ad ka mth mnw mcp mcb mcv mcl mbl mpl mfm mto mfs mls mpg mpn mus mdi mst mbs (nI q) men mfl mrd mwn mlf) H ∧ va_D A (mw h ad ka mth mnw mcp mcb mcv mcl mbl mpl mfm mto mfs mls mpg mpn mus mdi mst mbs (nI q) men mfl mrd mwn mlf) ∧ va_S A s.heap H locs ∧ lv_has ls 3 [(0, .ref h), (1, .int (nI z))]) ?_ 12 0 ⟨Nat.zero_le _, rfl, hP, (mw_D hDw), hS, lv_sub hl [1, 0] rfl⟩
  skip
  intro n z H locs ls hI ih
  obtain ⟨hi, hn, hP, hD, hS, hl⟩ := hI
  refine lv_iload_n hx hb dM_found_2 rfl (lv_at hl 1 rfl) ?_
  refine lv_bipush (v := 12) hx hb dM_found_3 (by decide) ?_
  refine lv_icmp_ge (tgt := 25) hx hb dM_found_5 (by decide) (fun c_1 => ?_) (fun c_1 => ?_)
  · refine lv_iconst (v := (-1)) hx hb dM_found_25 (by decide) ?_
    refine lv_istore_n (lv' := [(1, .int (-1)), (0, .ref h)]) hx hb dM_found_26 rfl hl (by decide) rfl (fun ls hl => ?_)
    refine lv_iconst (v := 0) hx hb dM_found_27 (by decide) ?_
    refine lv_istore_n (lv' := [(2, .int 0), (1, .int (-1)), (0, .ref h)]) hx hb dM_found_28 rfl hl (by decide) rfl (fun ls hl => ?_)
    refine tk_loop 29 (fun (n : Nat) (y : Nat × Int32 × ((Nat → Int32) × Nat)) H locs ls => (y.1 ≤ 49) ∧ (n = 60 - y.1) ∧ ((y.2.1 = -1 ∧ y.1 ≤ 48 ∧ y.2.2.2 < 12 ∧ (∀ i, i < 12 → ¬ y.2.2.1 i < 0) ∧ hbU mpn (48 - y.1) y.2.2 = (u1, f0)) ∨ (y.2.1 = nI f0 ∧ y.2.2 = (u1, nxt f0))) ∧ va_P (dC, dI) clB (mw h ad ka mth mnw mcp mcb mcv mcl mbl mpl mfm mto mfs mls mpg mpn y.2.2.1 mdi mst mbs (nI y.2.2.2) men mfl mrd mwn mlf) H ∧ va_D A (mw h ad ka mth mnw mcp mcb mcv mcl mbl mpl mfm mto mfs mls mpg mpn y.2.2.1 mdi mst mbs (nI y.2.2.2) men mfl mrd mwn mlf) ∧ va_S A s.heap H locs ∧ lv_has ls 3 [(0, .ref h), (1, .int (y.2.1)), (2, .int (nI y.1))]) ?_ 60 (0, -1, (mus, q)) ⟨Nat.zero_le _, rfl, Or.inl ⟨rfl, Nat.zero_le _, hq0, hus0, hHB⟩, hP, (mw_D hDw), hS, lv_sub hl [2, 1, 0] rfl⟩
    skip
    intro n y H locs ls hI ih
    obtain ⟨hi, hn, hdis, hP, hD, hS, hl⟩ := hI
    refine lv_iload_n hx hb dM_found_29 rfl (lv_at hl 2 rfl) ?_
    refine lv_bipush (v := 60) hx hb dM_found_30 (by decide) ?_
    refine lv_icmp_ge (tgt := 115) hx hb dM_found_32 (by decide) (fun c_2 => ?_) (fun c_2 => ?_)
    · exact absurd ((nI_leI (a := 60) (b := y.1) (by decide) (by omega)).mp c_2) (by omega)
    · refine lv_iload_n hx hb dM_found_35 rfl (lv_at hl 1 rfl) ?_
      refine lv_if_ge (tgt := 115) hx hb dM_found_36 (by decide) (fun c_3 => ?_) (fun c_3 => ?_)
      · have hfin := hdis.resolve_left (fun h9 => absurd c_3 (by rw [h9.1]; decide))
        have ef := hfin.1
        have e1 : y.2.2.1 = u1 := by rw [hfin.2]
        have e2 : y.2.2.2 = nxt f0 := by rw [hfin.2]
        rw [e1, e2] at hP
        have hP : va_P (dC, dI) clB (mw h ad ka mth mnw mcp mcb mcv mcl mbl mpl mfm mto mfs mls mpg mpn u1 mdi mst mbs (nI (nxt f0)) men mfl mrd mwn mlf) H := hP
        have hD : va_D A (mw h ad ka mth mnw mcp mcb mcv mcl mbl mpl mfm mto mfs mls mpg mpn u1 mdi mst mbs (nI (nxt f0)) men mfl mrd mwn mlf) := mw_D hDw
        refine lv_aload_n hx hb dM_found_115 rfl (lv_at hl 0 rfl) ?_
        refine va_get (D := (dC, dI)) (ci := 4) (v := .ref (ad 13)) (C := RM) (T := TM) (N := 24) hx hb hts (inC inM) hown hK hP 0 rfl rfl 15 (by decide) (hq _ wi_481) (fun _ h9 => h9) rfl dM_found_116 ?_
        refine lv_iload_n hx hb dM_found_119 rfl (lv_at hl 1 rfl) ?_
        refine tk_zald (n := f0) hx hb hK hP 14 4 rfl rfl ef hf0 (by decide) dM_found_120 ?_
        refine lv_if_eq (tgt := 136) hx hb dM_found_121 (by decide) (fun c_4 => ?_) (fun c_4 => ?_)
        · exact absurd c_4 hd0
        · refine lv_aload_n hx hb dM_found_124 rfl (lv_at hl 0 rfl) ?_
          refine lv_iload_n hx hb dM_found_125 rfl (lv_at hl 1 rfl) ?_
          have hFc := tk_freeW hD hS hA
          refine va_calli (va_runV (As := [.int (y.2.1)]) (rest := []) ⟨hx, hb, hml, hown, hts⟩ (c_M_write_ok l dC dI ka _ h ad mth mnw mcp mcb mcv mcl mbl mpl mfm mto mfs mls mpg mpn u1 mdi mst mbs (nI (nxt f0)) men mfl mrd mwn mlf y.2.1 f0 np b u ef hf0 hpg hnp eb eu hbu hu hok) (cwV 1 hts (tw_V wi_600 wi_602 wi_19 wi_28 wi_603) rfl rfl rfl (by decide +kernel) ⟨Nat.le_of_ble_eq_true rfl, Nat.le_of_ble_eq_true rfl⟩) ⟨fun a U g mk q => ⟨q.1, q.2.1, tk_E.call q.2.2.1, q.2.2.2⟩, va_recv hK hP (ci := 4) (q0 := 0) rfl rfl, fun U hU hW => ⟨rfl, by rw [hU], tk_E.warm hW hE, by rw [hU]; exact hP, hD.weaken (fun _ _ _ _ => trivial)⟩⟩ rfl rfl hl.1 rfl (lv_room (Nat.le_of_ble_eq_true rfl)) dM_found_126 ⟨Nat.zero_le _, Nat.zero_le _⟩) hS (fun q _ h => hFc q h) hFc (fun r_6 u_5 t H1 locs ht hvm hw hB hz1 hk1 hS => ?_)
          have hB : va_P (dC, dI) clB (mw h ad ka mth mnw mcp mcb mcv mcl mbl mpl (secF mfm np (nI b) 8) (secF mto np (nI u) 8) (fsF mfs np (rs1 (mst f0)) 8) (lsF mls np (rs1 (mst f0)) 8) mpg mpn u1 (upd mdi f0 0) (upd mst f0 (rs1 (mst f0))) mbs (nI (nxt f0)) (if (plcF mcp mcl mpl (mpg f0) b (u - b)) ≤ men then men else (plcF mcp mcl mpl (mpg f0) b (u - b))) (if (plcF mcp mcl mpl (mpg f0) b (u - b)) ≤ men then mfl else mfl + 1) mrd (mwn + nI 8) (mlA mlf 8)) H1 := by rw [← ht]; exact hB
          obtain ⟨hP, hD⟩ := (⟨hB, mw_D hDw⟩ : va_P (dC, dI) clB (mw h ad ka mth mnw mcp mcb mcv mcl mbl mpl (secF mfm np (nI b) 8) (secF mto np (nI u) 8) (fsF mfs np (rs1 (mst f0)) 8) (lsF mls np (rs1 (mst f0)) 8) mpg mpn u1 (upd mdi f0 0) (upd mst f0 (rs1 (mst f0))) mbs (nI (nxt f0)) (if (plcF mcp mcl mpl (mpg f0) b (u - b)) ≤ men then men else (plcF mcp mcl mpl (mpg f0) b (u - b))) (if (plcF mcp mcl mpl (mpg f0) b (u - b)) ≤ men then mfl else mfl + 1) mrd (mwn + nI 8) (mlA mlf 8)) H1 ∧ va_D A (mw h ad ka mth mnw mcp mcb mcv mcl mbl mpl (secF mfm np (nI b) 8) (secF mto np (nI u) 8) (fsF mfs np (rs1 (mst f0)) 8) (lsF mls np (rs1 (mst f0)) 8) mpg mpn u1 (upd mdi f0 0) (upd mst f0 (rs1 (mst f0))) mbs (nI (nxt f0)) (if (plcF mcp mcl mpl (mpg f0) b (u - b)) ≤ men then men else (plcF mcp mcl mpl (mpg f0) b (u - b))) (if (plcF mcp mcl mpl (mpg f0) b (u - b)) ≤ men then mfl else mfl + 1) mrd (mwn + nI 8) (mlA mlf 8)))
          generalize H1 = H at hP hS ⊢
          have hP : va_P (dC, dI) clB (mw h ad ka mth mnw mcp mcb mcv mcl mbl mpl (secF mfm np (nI b) 8) (secF mto np (nI u) 8) (fsF mfs np (rs1 (mst f0)) 8) (lsF mls np (rs1 (mst f0)) 8) mpg mpn u1 (upd mdi f0 0) (upd mst f0 (rs1 (mst f0))) mbs (nI (nxt f0)) (if (plcF mcp mcl mpl (mpg f0) b (u - b)) ≤ men then men else (plcF mcp mcl mpl (mpg f0) b (u - b))) (if (plcF mcp mcl mpl (mpg f0) b (u - b)) ≤ men then mfl else mfl + 1) mrd (mwn + nI 8) (mlA mlf 8)) H := hP
          have hD : va_D A (mw h ad ka mth mnw mcp mcb mcv mcl mbl mpl (secF mfm np (nI b) 8) (secF mto np (nI u) 8) (fsF mfs np (rs1 (mst f0)) 8) (lsF mls np (rs1 (mst f0)) 8) mpg mpn u1 (upd mdi f0 0) (upd mst f0 (rs1 (mst f0))) mbs (nI (nxt f0)) (if (plcF mcp mcl mpl (mpg f0) b (u - b)) ≤ men then men else (plcF mcp mcl mpl (mpg f0) b (u - b))) (if (plcF mcp mcl mpl (mpg f0) b (u - b)) ≤ men then mfl else mfl + 1) mrd (mwn + nI 8) (mlA mlf 8)) := mw_D hDw
          subst hw
          refine lv_if_ne (tgt := 136) hx hb dM_found_129 (by decide) (fun c_7 => ?_) (fun c_7 => ?_)
          · refine lv_iload_n hx hb dM_found_136 rfl (lv_at hl 1 rfl) ?_
            exact W.iret (v := y.2.1) hx hb hr (fun t ht hW => ⟨⟨y.2.1, (), rfl, ef, by show va_P _ _ _ t.heap; rw [ht]; exact hP⟩, hS.F ht⟩) hS.2.2 dM_found_137
          · exact absurd c_7 (by decide)
      · obtain ⟨eg, hk48, hh, hus, hhb⟩ := hdis.resolve_right (fun h9 => c_3 (by rw [h9.1]; exact nI_pos' (by omega)))
        refine lv_aload_n hx hb dM_found_39 rfl (lv_at hl 0 rfl) ?_
        refine va_get (D := (dC, dI)) (ci := 4) (v := .ref (ad 11)) (C := RM) (T := TM) (N := 24) hx hb hts (inC inM) hown hK hP 0 rfl rfl 13 (by decide) (hq _ wi_479) (fun _ h9 => h9) rfl dM_found_40 ?_
        refine lv_aload_n hx hb dM_found_43 rfl (lv_at hl 0 rfl) ?_
        refine va_get (D := (dC, dI)) (ci := 4) (v := .int (nI y.2.2.2)) (C := RM) (T := TM) (N := 24) hx hb hts (inC inM) hown hK hP 0 rfl rfl 18 (by decide) (hq _ wi_484) (fun _ h9 => h9) rfl dM_found_44 ?_
        refine tk_iald (n := y.2.2.2) hx hb hK hP 12 3 rfl rfl rfl hh (by decide) dM_found_47 ?_
        refine lv_if_ne (tgt := 71) hx hb dM_found_48 (by decide) (fun c_8 => ?_) (fun c_8 => ?_)
        · refine lv_aload_n hx hb dM_found_71 rfl (lv_at hl 0 rfl) ?_
          refine va_get (D := (dC, dI)) (ci := 4) (v := .ref (ad 11)) (C := RM) (T := TM) (N := 24) hx hb hts (inC inM) hown hK hP 0 rfl rfl 13 (by decide) (hq _ wi_479) (fun _ h9 => h9) rfl dM_found_72 ?_
          refine lv_aload_n hx hb dM_found_75 rfl (lv_at hl 0 rfl) ?_
          refine va_get (D := (dC, dI)) (ci := 4) (v := .int (nI y.2.2.2)) (C := RM) (T := TM) (N := 24) hx hb hts (inC inM) hown hK hP 0 rfl rfl 18 (by decide) (hq _ wi_484) (fun _ h9 => h9) rfl dM_found_76 ?_
          refine tk_iald (n := y.2.2.2) hx hb hK hP 12 3 rfl rfl rfl hh (by decide) dM_found_79 ?_
          refine lv_if_ne (tgt := 96) hx hb dM_found_80 (by decide) (fun c_9 => ?_) (fun c_9 => ?_)
          · refine lv_aload_n hx hb dM_found_96 rfl (lv_at hl 0 rfl) ?_
            refine lv_aload_n hx hb dM_found_97 rfl (lv_at hl 0 rfl) ?_
            refine va_get (D := (dC, dI)) (ci := 4) (v := .int (nI y.2.2.2)) (C := RM) (T := TM) (N := 24) hx hb hts (inC inM) hown hK hP 0 rfl rfl 18 (by decide) (hq _ wi_484) (fun _ h9 => h9) rfl dM_found_98 ?_
            refine lv_iconst (v := 1) hx hb dM_found_101 (by decide) ?_
            refine lv_iadd hx hb dM_found_102 ?_
            refine lv_bipush (v := 12) hx hb dM_found_103 (by decide) ?_
            refine lv_irem hx hb dM_found_105 (by decide) ?_
            refine va_put (D := (dC, dI)) (ci := 4) (v := .int (((nI y.2.2.2) + 1) - ((nI y.2.2.2) + 1) / 12 * 12)) (ty := .int) (C := RM) (T := TM) (N := 24) hx hb hts (inC inM) tyM tyM_ok nmM hown hK hP hD hS 0 rfl rfl 18 (by decide) (hq _ wi_484) (fun _ h9 => h9) rfl (by decide +kernel) rfl rfl (Nat.le_of_ble_eq_true rfl) dM_found_106 (fun H locs hP hD hS => ?_)
            have hP : va_P (dC, dI) clB (mw h ad ka mth mnw mcp mcb mcv mcl mbl mpl mfm mto mfs mls mpg mpn y.2.2.1 mdi mst mbs (((nI y.2.2.2) + 1) - ((nI y.2.2.2) + 1) / 12 * 12) men mfl mrd mwn mlf) H := hP
            have hD : va_D A (mw h ad ka mth mnw mcp mcb mcv mcl mbl mpl mfm mto mfs mls mpg mpn y.2.2.1 mdi mst mbs (((nI y.2.2.2) + 1) - ((nI y.2.2.2) + 1) / 12 * 12) men mfl mrd mwn mlf) := mw_D hDw
            refine lv_iinc (v := ((nI y.1) + 1)) (lv' := [(2, .int ((nI y.1) + 1)), (0, .ref h), (1, .int (y.2.1))]) hx hb dM_found_109 hl (k := 2) rfl rfl (by decide) rfl (fun ls hl => ?_)
            refine lv_goto (tgt := 29) hx hb dM_found_112 (by decide) ?_
            have hgo := hbU_go hhb htk (fun h9 => c_8 h9.1)
            exact ih (n - 1) (y.1 + 1, y.2.1, (y.2.2.1, nxt y.2.2.2)) _ _ _ (by omega) ⟨by show y.1 + 1 ≤ 49; omega, by show n - 1 = 60 - (y.1 + 1); omega, Or.inl ⟨eg, by show y.1 + 1 ≤ 48; omega, nxt_lt, hus, by have h9 := hgo.2; rw [if_neg c_8, upd_id] at h9; rw [show 48 - y.1 - 1 = 48 - (y.1 + 1) by omega] at h9; exact h9⟩, (by rw [← nxt_rem hh]; exact hP), (mw_D hDw), hS, lv_sub hl [1, 2, 0] (by rw [← nI_1 y.1]; rfl)⟩
          · exact absurd c_9 c_8
        · refine lv_aload_n hx hb dM_found_51 rfl (lv_at hl 0 rfl) ?_
          refine va_get (D := (dC, dI)) (ci := 4) (v := .ref (ad 12)) (C := RM) (T := TM) (N := 24) hx hb hts (inC inM) hown hK hP 0 rfl rfl 14 (by decide) (hq _ wi_480) (fun _ h9 => h9) rfl dM_found_52 ?_
          refine lv_aload_n hx hb dM_found_55 rfl (lv_at hl 0 rfl) ?_
          refine va_get (D := (dC, dI)) (ci := 4) (v := .int (nI y.2.2.2)) (C := RM) (T := TM) (N := 24) hx hb hts (inC inM) hown hK hP 0 rfl rfl 18 (by decide) (hq _ wi_484) (fun _ h9 => h9) rfl dM_found_56 ?_
          refine tk_iald (n := y.2.2.2) hx hb hK hP 13 3 rfl rfl rfl hh (by decide) dM_found_59 ?_
          refine lv_if_ne (tgt := 71) hx hb dM_found_60 (by decide) (fun c_10 => ?_) (fun c_10 => ?_)
          · refine lv_aload_n hx hb dM_found_71 rfl (lv_at hl 0 rfl) ?_
            refine va_get (D := (dC, dI)) (ci := 4) (v := .ref (ad 11)) (C := RM) (T := TM) (N := 24) hx hb hts (inC inM) hown hK hP 0 rfl rfl 13 (by decide) (hq _ wi_479) (fun _ h9 => h9) rfl dM_found_72 ?_
            refine lv_aload_n hx hb dM_found_75 rfl (lv_at hl 0 rfl) ?_
            refine va_get (D := (dC, dI)) (ci := 4) (v := .int (nI y.2.2.2)) (C := RM) (T := TM) (N := 24) hx hb hts (inC inM) hown hK hP 0 rfl rfl 18 (by decide) (hq _ wi_484) (fun _ h9 => h9) rfl dM_found_76 ?_
            refine tk_iald (n := y.2.2.2) hx hb hK hP 12 3 rfl rfl rfl hh (by decide) dM_found_79 ?_
            refine lv_if_ne (tgt := 96) hx hb dM_found_80 (by decide) (fun c_11 => ?_) (fun c_11 => ?_)
            · exact absurd c_8 c_11
            · refine lv_aload_n hx hb dM_found_83 rfl (lv_at hl 0 rfl) ?_
              refine va_get (D := (dC, dI)) (ci := 4) (v := .ref (ad 12)) (C := RM) (T := TM) (N := 24) hx hb hts (inC inM) hown hK hP 0 rfl rfl 14 (by decide) (hq _ wi_480) (fun _ h9 => h9) rfl dM_found_84 ?_
              refine lv_aload_n hx hb dM_found_87 rfl (lv_at hl 0 rfl) ?_
              refine va_get (D := (dC, dI)) (ci := 4) (v := .int (nI y.2.2.2)) (C := RM) (T := TM) (N := 24) hx hb hts (inC inM) hown hK hP 0 rfl rfl 18 (by decide) (hq _ wi_484) (fun _ h9 => h9) rfl dM_found_88 ?_
              refine lv_dup2_11 hx hb dM_found_91 rfl rfl ?_
              refine tk_iald (n := y.2.2.2) hx hb hK hP 13 3 rfl rfl rfl hh (by decide) dM_found_92 ?_
              refine lv_iconst (v := 1) hx hb dM_found_93 (by decide) ?_
              refine lv_isub hx hb dM_found_94 ?_
              refine tk_iast (n := y.2.2.2) hx hb hK hP hD hS 13 3 rfl rfl rfl hh (by decide) dM_found_95 (fun H locs hP hD hS => ?_)
              have hP : va_P (dC, dI) clB (mw h ad ka mth mnw mcp mcb mcv mcl mbl mpl mfm mto mfs mls mpg mpn (upd y.2.2.1 y.2.2.2 ((y.2.2.1 y.2.2.2) - 1)) mdi mst mbs (nI y.2.2.2) men mfl mrd mwn mlf) H := hP
              have hD : va_D A (mw h ad ka mth mnw mcp mcb mcv mcl mbl mpl mfm mto mfs mls mpg mpn (upd y.2.2.1 y.2.2.2 ((y.2.2.1 y.2.2.2) - 1)) mdi mst mbs (nI y.2.2.2) men mfl mrd mwn mlf) := mw_D hDw
              refine lv_aload_n hx hb dM_found_96 rfl (lv_at hl 0 rfl) ?_
              refine lv_aload_n hx hb dM_found_97 rfl (lv_at hl 0 rfl) ?_
              refine va_get (D := (dC, dI)) (ci := 4) (v := .int (nI y.2.2.2)) (C := RM) (T := TM) (N := 24) hx hb hts (inC inM) hown hK hP 0 rfl rfl 18 (by decide) (hq _ wi_484) (fun _ h9 => h9) rfl dM_found_98 ?_
              refine lv_iconst (v := 1) hx hb dM_found_101 (by decide) ?_
              refine lv_iadd hx hb dM_found_102 ?_
              refine lv_bipush (v := 12) hx hb dM_found_103 (by decide) ?_
              refine lv_irem hx hb dM_found_105 (by decide) ?_
              refine va_put (D := (dC, dI)) (ci := 4) (v := .int (((nI y.2.2.2) + 1) - ((nI y.2.2.2) + 1) / 12 * 12)) (ty := .int) (C := RM) (T := TM) (N := 24) hx hb hts (inC inM) tyM tyM_ok nmM hown hK hP hD hS 0 rfl rfl 18 (by decide) (hq _ wi_484) (fun _ h9 => h9) rfl (by decide +kernel) rfl rfl (Nat.le_of_ble_eq_true rfl) dM_found_106 (fun H locs hP hD hS => ?_)
              have hP : va_P (dC, dI) clB (mw h ad ka mth mnw mcp mcb mcv mcl mbl mpl mfm mto mfs mls mpg mpn (upd y.2.2.1 y.2.2.2 ((y.2.2.1 y.2.2.2) - 1)) mdi mst mbs (((nI y.2.2.2) + 1) - ((nI y.2.2.2) + 1) / 12 * 12) men mfl mrd mwn mlf) H := hP
              have hD : va_D A (mw h ad ka mth mnw mcp mcb mcv mcl mbl mpl mfm mto mfs mls mpg mpn (upd y.2.2.1 y.2.2.2 ((y.2.2.1 y.2.2.2) - 1)) mdi mst mbs (((nI y.2.2.2) + 1) - ((nI y.2.2.2) + 1) / 12 * 12) men mfl mrd mwn mlf) := mw_D hDw
              refine lv_iinc (v := ((nI y.1) + 1)) (lv' := [(2, .int ((nI y.1) + 1)), (0, .ref h), (1, .int (y.2.1))]) hx hb dM_found_109 hl (k := 2) rfl rfl (by decide) rfl (fun ls hl => ?_)
              refine lv_goto (tgt := 29) hx hb dM_found_112 (by decide) ?_
              have hgo := hbU_go hhb htk (fun h9 => c_10 h9.2)
              have hdn := dec_nn (hus _ hh) c_10
              exact ih (n - 1) (y.1 + 1, y.2.1, (upd y.2.2.1 y.2.2.2 ((y.2.2.1 y.2.2.2) - 1), nxt y.2.2.2)) _ _ _ (by omega) ⟨by show y.1 + 1 ≤ 49; omega, by show n - 1 = 60 - (y.1 + 1); omega, Or.inl ⟨eg, by show y.1 + 1 ≤ 48; omega, nxt_lt, upd_nn hus hdn.1, by have h9 := hgo.2; rw [if_pos c_8, if_neg hdn.2] at h9; rw [show 48 - y.1 - 1 = 48 - (y.1 + 1) by omega] at h9; exact h9⟩, (by rw [← nxt_rem hh]; exact hP), (mw_D hDw), hS, lv_sub hl [1, 2, 0] (by rw [← nI_1 y.1]; rfl)⟩
          · refine lv_aload_n hx hb dM_found_63 rfl (lv_at hl 0 rfl) ?_
            refine va_get (D := (dC, dI)) (ci := 4) (v := .int (nI y.2.2.2)) (C := RM) (T := TM) (N := 24) hx hb hts (inC inM) hown hK hP 0 rfl rfl 18 (by decide) (hq _ wi_484) (fun _ h9 => h9) rfl dM_found_64 ?_
            refine lv_istore_n (lv' := [(1, .int (nI y.2.2.2)), (0, .ref h), (2, .int (nI y.1))]) hx hb dM_found_67 rfl hl (by decide) rfl (fun ls hl => ?_)
            refine lv_goto (tgt := 96) hx hb dM_found_68 (by decide) ?_
            refine lv_aload_n hx hb dM_found_96 rfl (lv_at hl 1 rfl) ?_
            refine lv_aload_n hx hb dM_found_97 rfl (lv_at hl 1 rfl) ?_
            refine va_get (D := (dC, dI)) (ci := 4) (v := .int (nI y.2.2.2)) (C := RM) (T := TM) (N := 24) hx hb hts (inC inM) hown hK hP 0 rfl rfl 18 (by decide) (hq _ wi_484) (fun _ h9 => h9) rfl dM_found_98 ?_
            refine lv_iconst (v := 1) hx hb dM_found_101 (by decide) ?_
            refine lv_iadd hx hb dM_found_102 ?_
            refine lv_bipush (v := 12) hx hb dM_found_103 (by decide) ?_
            refine lv_irem hx hb dM_found_105 (by decide) ?_
            refine va_put (D := (dC, dI)) (ci := 4) (v := .int (((nI y.2.2.2) + 1) - ((nI y.2.2.2) + 1) / 12 * 12)) (ty := .int) (C := RM) (T := TM) (N := 24) hx hb hts (inC inM) tyM tyM_ok nmM hown hK hP hD hS 0 rfl rfl 18 (by decide) (hq _ wi_484) (fun _ h9 => h9) rfl (by decide +kernel) rfl rfl (Nat.le_of_ble_eq_true rfl) dM_found_106 (fun H locs hP hD hS => ?_)
            have hP : va_P (dC, dI) clB (mw h ad ka mth mnw mcp mcb mcv mcl mbl mpl mfm mto mfs mls mpg mpn y.2.2.1 mdi mst mbs (((nI y.2.2.2) + 1) - ((nI y.2.2.2) + 1) / 12 * 12) men mfl mrd mwn mlf) H := hP
            have hD : va_D A (mw h ad ka mth mnw mcp mcb mcv mcl mbl mpl mfm mto mfs mls mpg mpn y.2.2.1 mdi mst mbs (((nI y.2.2.2) + 1) - ((nI y.2.2.2) + 1) / 12 * 12) men mfl mrd mwn mlf) := mw_D hDw
            refine lv_iinc (v := ((nI y.1) + 1)) (lv' := [(2, .int ((nI y.1) + 1)), (1, .int (nI y.2.2.2)), (0, .ref h)]) hx hb dM_found_109 hl (k := 2) rfl rfl (by decide) rfl (fun ls hl => ?_)
            refine lv_goto (tgt := 29) hx hb dM_found_112 (by decide) ?_
            have hy : y.2.2 = (u1, f0) := (hbU_take (k := 48 - y.1) ⟨c_8, c_10⟩).symm.trans hhb
            exact ih (n - 1) (y.1 + 1, nI y.2.2.2, (y.2.2.1, nxt y.2.2.2)) _ _ _ (by omega) ⟨by show y.1 + 1 ≤ 49; omega, by show n - 1 = 60 - (y.1 + 1); omega, Or.inr ⟨by show nI y.2.2.2 = _; rw [hy], by show (y.2.2.1, nxt y.2.2.2) = _; rw [hy]⟩, (by rw [← nxt_rem hh]; exact hP), (mw_D hDw), hS, lv_sub hl [2, 1, 0] (by rw [← nI_1 y.1]; rfl)⟩
  · have hz : z < 12 := by have := mt (nI_leI (a := 12) (b := z) (by decide) (by omega)).mpr c_1; omega
    refine lv_aload_n hx hb dM_found_8 rfl (lv_at hl 0 rfl) ?_
    refine va_get (D := (dC, dI)) (ci := 4) (v := .ref (ad 10)) (C := RM) (T := TM) (N := 24) hx hb hts (inC inM) hown hK hP 0 rfl rfl 12 (by decide) (hq _ wi_478) (fun _ h9 => h9) rfl dM_found_9 ?_
    refine lv_iload_n hx hb dM_found_12 rfl (lv_at hl 1 rfl) ?_
    refine tk_iald (n := z) hx hb hK hP 11 3 rfl rfl rfl (by omega) (by decide) dM_found_13 ?_
    refine lv_if_ge (tgt := 19) hx hb dM_found_14 (by decide) (fun c_12 => ?_) (fun c_12 => ?_)
    · refine lv_iinc (v := ((nI z) + 1)) (lv' := [(1, .int ((nI z) + 1)), (0, .ref h)]) hx hb dM_found_19 hl (k := 1) rfl rfl (by decide) rfl (fun ls hl => ?_)
      refine lv_goto (tgt := 2) hx hb dM_found_22 (by decide) ?_
      exact ih (n - 1) (z + 1) _ _ _ (by omega) ⟨by omega, by omega, hP, (mw_D hDw), hS, lv_sub hl [1, 0] (by rw [← nI_1 z]; rfl)⟩
    · exact absurd (Int32.not_lt.mp (hall z hz)) c_12

set_option maxHeartbeats 4000000 in
set_option maxRecDepth 100000 in
theorem c_M_found_x (l : Launch) (dC : Nat → ClassId) (dI : Nat → Nat → Nat) (ka : Nat → ClassId) (sz : Nat) (h : Nat) (ad : Nat → Nat) (mth mnw : Int32) (mcp mcb mcv mcl mbl mpl mfm mto mfs mls mpg mpn mus mdi mst mbs : Nat → Int32) (men mfl mrd mwn mlf : Int32) (q : Nat) (f0 np b u mm : Nat) (u1 : Nat → Int32) (cpN cbN : Nat → Nat) (hall : ∀ i, i < 12 → ¬ mpg i < 0) (hq0 : q < 12) (hf0 : f0 < 12) (hus0 : ∀ i, i < 12 → ¬ mus i < 0) (hHB : hbU mpn 48 (mus, q) = (u1, f0)) (htk : mpn f0 = 0 ∧ u1 f0 = 0) (hd0 : ¬ mdi f0 = 0) (hpg : mpg f0 = nI np) (hnp : np < 192) (eb : mbs f0 = nI b) (eu : mnw = nI u) (hbu : b ≤ u) (hu : u < 520) (hch : ∀ e, 1 ≤ e → e ≤ u → mcp e = nI (cpN e) ∧ cpN e < 192 ∧ mcb e = nI (cbN e) ∧ cbN e < 512) (hm8 : mm < 8) (hnz : ∀ z, z < mm → ¬ mlA mlf z = 0) (h0 : mlA mlf mm = 0) : Met l yM_found wM_found ({ frames := 3, cells := 0, slots := 0, locals := 70 }) (va_Pc [.ref h] (fun U => U.heap.size = sz ∧ tk_E dC dI ka U ∧ va_P (dC, dI) clB (mw h ad ka mth mnw mcp mcb mcv mcl mbl mpl mfm mto mfs mls mpg mpn mus mdi mst mbs (nI q) men mfl mrd mwn mlf) U.heap ∧ va_D (fun _ => True) (mw h ad ka mth mnw mcp mcb mcv mcl mbl mpl mfm mto mfs mls mpg mpn mus mdi mst mbs (nI q) men mfl mrd mwn mlf))) (va_Qi (fun (r : Int32) (_ : Unit) => r = -1) (fun _ t => va_P (dC, dI) clB (mw h ad ka mth mnw mcp mcb mcv mcl (stepF mbl (lsB mbl (secF mto np (nI u) mm) cpN cbN) (u + 1)) (stepF mpl (lsP mpl (secF mto np (nI u) mm) cpN) (u + 1)) (secF mfm np (nI b) mm) (secF mto np (nI u) mm) (fsF mfs np (rs1 (mst f0)) mm) (lsF mls np (rs1 (mst f0)) mm) (dropF (-1) mpg 12) mpn u1 mdi (upd mst f0 (rs1 (mst f0))) mbs 0 (if (plcF mcp mcl mpl (mpg f0) b (u - b)) ≤ men then men else (plcF mcp mcl mpl (mpg f0) b (u - b))) (if (plcF mcp mcl mpl (mpg f0) b (u - b)) ≤ men then mfl else mfl + 1) mrd (mwn + nI mm) (-1)) t.heap) (va_A (mw h ad ka mth mnw mcp mcb mcv mcl mbl mpl mfm mto mfs mls mpg mpn mus mdi mst mbs (nI q) men mfl mrd mwn mlf) sz)) 0 0 (va_A (mw h ad ka mth mnw mcp mcb mcv mcl mbl mpl mfm mto mfs mls mpg mpn mus mdi mst mbs (nI q) men mfl mrd mwn mlf) sz) := by
  refine Met.ofW (cc := cM_found) (maxL := 3) (ret := (some .int)) (by decide) rfl ?_
  intro p e s m args below meth c s₁ B hml hv
  obtain ⟨rfl, hsz, hE, hP, hD0⟩ := hv
  have hx := B.exec
  have hb := B.bytes
  have hr := B.returns
  have hts := atoms_spec (ws := wM_found) B.pre
  have hq : ∀ w ∈ lwg, w.before _ s = true := fun w h => hts w (List.mem_cons_of_mem _ h)
  have hown : s.vm.findClass RM = some m.cls := findClass_of_methodNamed B.named
  have hlocks := B.notSynchronized
  have hK := hE.1
  have hN := hE.2
  subst hsz
  have hD := hD0.self (sz := s.heap.size)
  generalize hAe : va_A (mw h ad ka mth mnw mcp mcb mcv mcl mbl mpl mfm mto mfs mls mpg mpn mus mdi mst mbs (nI q) men mfl mrd mwn mlf) s.heap.size = A at hD ⊢
  have hA : ∀ q : Nat, s.heap.size ≤ q → A q := fun q h => by rw [← hAe]; exact Or.inr h
  have hS : va_S A s.heap s.heap [] := va_S.rf
  have hDw := hD
  have hP : va_P (dC, dI) clB (mw h ad ka mth mnw mcp mcb mcv mcl mbl mpl mfm mto mfs mls mpg mpn mus mdi mst mbs (nI q) men mfl mrd mwn mlf) s.heap := hP
  have hl := lv_entry ([.ref h]) (n := 3) (Nat.le_of_ble_eq_true rfl)
  rw [lg_entry_eq]
  generalize (lg_sl ([.ref h]) ++ List.replicate (3 - (lg_sl ([.ref h])).length) Slot.unset).toArray = ls at hl ⊢
  have hl : lv_has ls 3 [(0, .ref h)] := hl
  refine lv_iconst (v := 0) hx hb dM_found_0 (by decide) ?_
  refine lv_istore_n (lv' := [(1, .int 0), (0, .ref h)]) hx hb dM_found_1 rfl hl (by decide) rfl (fun ls hl => ?_)
  refine tk_loop 2 (fun (n : Nat) (z : Nat) H locs ls => (z ≤ 12) ∧ (n = 12 - z) ∧ va_P (dC, dI) clB (mw h ad ka mth mnw mcp mcb mcv mcl mbl mpl mfm mto mfs mls mpg mpn mus mdi mst mbs (nI q) men mfl mrd mwn mlf) H ∧ va_D A (mw h ad ka mth mnw mcp mcb mcv mcl mbl mpl mfm mto mfs mls mpg mpn mus mdi mst mbs (nI q) men mfl mrd mwn mlf) ∧ va_S A s.heap H locs ∧ lv_has ls 3 [(0, .ref h), (1, .int (nI z))]) ?_ 12 0 ⟨Nat.zero_le _, rfl, hP, (mw_D hDw), hS, lv_sub hl [1, 0] rfl⟩
  skip
  intro n z H locs ls hI ih
  obtain ⟨hi, hn, hP, hD, hS, hl⟩ := hI
  refine lv_iload_n hx hb dM_found_2 rfl (lv_at hl 1 rfl) ?_
  refine lv_bipush (v := 12) hx hb dM_found_3 (by decide) ?_
  refine lv_icmp_ge (tgt := 25) hx hb dM_found_5 (by decide) (fun c_1 => ?_) (fun c_1 => ?_)
  · refine lv_iconst (v := (-1)) hx hb dM_found_25 (by decide) ?_
    refine lv_istore_n (lv' := [(1, .int (-1)), (0, .ref h)]) hx hb dM_found_26 rfl hl (by decide) rfl (fun ls hl => ?_)
    refine lv_iconst (v := 0) hx hb dM_found_27 (by decide) ?_
    refine lv_istore_n (lv' := [(2, .int 0), (1, .int (-1)), (0, .ref h)]) hx hb dM_found_28 rfl hl (by decide) rfl (fun ls hl => ?_)
    refine tk_loop 29 (fun (n : Nat) (y : Nat × Int32 × ((Nat → Int32) × Nat)) H locs ls => (y.1 ≤ 49) ∧ (n = 60 - y.1) ∧ ((y.2.1 = -1 ∧ y.1 ≤ 48 ∧ y.2.2.2 < 12 ∧ (∀ i, i < 12 → ¬ y.2.2.1 i < 0) ∧ hbU mpn (48 - y.1) y.2.2 = (u1, f0)) ∨ (y.2.1 = nI f0 ∧ y.2.2 = (u1, nxt f0))) ∧ va_P (dC, dI) clB (mw h ad ka mth mnw mcp mcb mcv mcl mbl mpl mfm mto mfs mls mpg mpn y.2.2.1 mdi mst mbs (nI y.2.2.2) men mfl mrd mwn mlf) H ∧ va_D A (mw h ad ka mth mnw mcp mcb mcv mcl mbl mpl mfm mto mfs mls mpg mpn y.2.2.1 mdi mst mbs (nI y.2.2.2) men mfl mrd mwn mlf) ∧ va_S A s.heap H locs ∧ lv_has ls 3 [(0, .ref h), (1, .int (y.2.1)), (2, .int (nI y.1))]) ?_ 60 (0, -1, (mus, q)) ⟨Nat.zero_le _, rfl, Or.inl ⟨rfl, Nat.zero_le _, hq0, hus0, hHB⟩, hP, (mw_D hDw), hS, lv_sub hl [2, 1, 0] rfl⟩
    skip
    intro n y H locs ls hI ih
    obtain ⟨hi, hn, hdis, hP, hD, hS, hl⟩ := hI
    refine lv_iload_n hx hb dM_found_29 rfl (lv_at hl 2 rfl) ?_
    refine lv_bipush (v := 60) hx hb dM_found_30 (by decide) ?_
    refine lv_icmp_ge (tgt := 115) hx hb dM_found_32 (by decide) (fun c_2 => ?_) (fun c_2 => ?_)
    · exact absurd ((nI_leI (a := 60) (b := y.1) (by decide) (by omega)).mp c_2) (by omega)
    · refine lv_iload_n hx hb dM_found_35 rfl (lv_at hl 1 rfl) ?_
      refine lv_if_ge (tgt := 115) hx hb dM_found_36 (by decide) (fun c_3 => ?_) (fun c_3 => ?_)
      · have hfin := hdis.resolve_left (fun h9 => absurd c_3 (by rw [h9.1]; decide))
        have ef := hfin.1
        have e1 : y.2.2.1 = u1 := by rw [hfin.2]
        have e2 : y.2.2.2 = nxt f0 := by rw [hfin.2]
        rw [e1, e2] at hP
        have hP : va_P (dC, dI) clB (mw h ad ka mth mnw mcp mcb mcv mcl mbl mpl mfm mto mfs mls mpg mpn u1 mdi mst mbs (nI (nxt f0)) men mfl mrd mwn mlf) H := hP
        have hD : va_D A (mw h ad ka mth mnw mcp mcb mcv mcl mbl mpl mfm mto mfs mls mpg mpn u1 mdi mst mbs (nI (nxt f0)) men mfl mrd mwn mlf) := mw_D hDw
        refine lv_aload_n hx hb dM_found_115 rfl (lv_at hl 0 rfl) ?_
        refine va_get (D := (dC, dI)) (ci := 4) (v := .ref (ad 13)) (C := RM) (T := TM) (N := 24) hx hb hts (inC inM) hown hK hP 0 rfl rfl 15 (by decide) (hq _ wi_481) (fun _ h9 => h9) rfl dM_found_116 ?_
        refine lv_iload_n hx hb dM_found_119 rfl (lv_at hl 1 rfl) ?_
        refine tk_zald (n := f0) hx hb hK hP 14 4 rfl rfl ef hf0 (by decide) dM_found_120 ?_
        refine lv_if_eq (tgt := 136) hx hb dM_found_121 (by decide) (fun c_4 => ?_) (fun c_4 => ?_)
        · exact absurd c_4 hd0
        · refine lv_aload_n hx hb dM_found_124 rfl (lv_at hl 0 rfl) ?_
          refine lv_iload_n hx hb dM_found_125 rfl (lv_at hl 1 rfl) ?_
          have hFc := tk_freeW hD hS hA
          refine va_calli (va_runV (As := [.int (y.2.1)]) (rest := []) ⟨hx, hb, hml, hown, hts⟩ (c_M_write_cut l dC dI ka _ h ad mth mnw mcp mcb mcv mcl mbl mpl mfm mto mfs mls mpg mpn u1 mdi mst mbs (nI (nxt f0)) men mfl mrd mwn mlf y.2.1 f0 np b u mm cpN cbN ef hf0 hpg hnp eb eu hbu hu hch hm8 hnz h0) (cwV 1 hts (tw_V wi_600 wi_602 wi_19 wi_28 wi_603) rfl rfl rfl (by decide +kernel) ⟨Nat.le_of_ble_eq_true rfl, Nat.le_of_ble_eq_true rfl⟩) ⟨fun a U g mk q => ⟨q.1, q.2.1, tk_E.call q.2.2.1, q.2.2.2⟩, va_recv hK hP (ci := 4) (q0 := 0) rfl rfl, fun U hU hW => ⟨rfl, by rw [hU], tk_E.warm hW hE, by rw [hU]; exact hP, hD.weaken (fun _ _ _ _ => trivial)⟩⟩ rfl rfl hl.1 rfl (lv_room (Nat.le_of_ble_eq_true rfl)) dM_found_126 ⟨Nat.zero_le _, Nat.zero_le _⟩) hS (fun q _ h => hFc q h) hFc (fun r_6 u_5 t H1 locs ht hvm hw hB hz1 hk1 hS => ?_)
          have hB : va_P (dC, dI) clB (mw h ad ka mth mnw mcp mcb mcv mcl (stepF mbl (lsB mbl (secF mto np (nI u) mm) cpN cbN) (u + 1)) (stepF mpl (lsP mpl (secF mto np (nI u) mm) cpN) (u + 1)) (secF mfm np (nI b) mm) (secF mto np (nI u) mm) (fsF mfs np (rs1 (mst f0)) mm) (lsF mls np (rs1 (mst f0)) mm) (dropF (-1) mpg 12) mpn u1 mdi (upd mst f0 (rs1 (mst f0))) mbs 0 (if (plcF mcp mcl mpl (mpg f0) b (u - b)) ≤ men then men else (plcF mcp mcl mpl (mpg f0) b (u - b))) (if (plcF mcp mcl mpl (mpg f0) b (u - b)) ≤ men then mfl else mfl + 1) mrd (mwn + nI mm) (-1)) H1 := by rw [← ht]; exact hB
          obtain ⟨hP, hD⟩ := (⟨hB, mw_D hDw⟩ : va_P (dC, dI) clB (mw h ad ka mth mnw mcp mcb mcv mcl (stepF mbl (lsB mbl (secF mto np (nI u) mm) cpN cbN) (u + 1)) (stepF mpl (lsP mpl (secF mto np (nI u) mm) cpN) (u + 1)) (secF mfm np (nI b) mm) (secF mto np (nI u) mm) (fsF mfs np (rs1 (mst f0)) mm) (lsF mls np (rs1 (mst f0)) mm) (dropF (-1) mpg 12) mpn u1 mdi (upd mst f0 (rs1 (mst f0))) mbs 0 (if (plcF mcp mcl mpl (mpg f0) b (u - b)) ≤ men then men else (plcF mcp mcl mpl (mpg f0) b (u - b))) (if (plcF mcp mcl mpl (mpg f0) b (u - b)) ≤ men then mfl else mfl + 1) mrd (mwn + nI mm) (-1)) H1 ∧ va_D A (mw h ad ka mth mnw mcp mcb mcv mcl (stepF mbl (lsB mbl (secF mto np (nI u) mm) cpN cbN) (u + 1)) (stepF mpl (lsP mpl (secF mto np (nI u) mm) cpN) (u + 1)) (secF mfm np (nI b) mm) (secF mto np (nI u) mm) (fsF mfs np (rs1 (mst f0)) mm) (lsF mls np (rs1 (mst f0)) mm) (dropF (-1) mpg 12) mpn u1 mdi (upd mst f0 (rs1 (mst f0))) mbs 0 (if (plcF mcp mcl mpl (mpg f0) b (u - b)) ≤ men then men else (plcF mcp mcl mpl (mpg f0) b (u - b))) (if (plcF mcp mcl mpl (mpg f0) b (u - b)) ≤ men then mfl else mfl + 1) mrd (mwn + nI mm) (-1)))
          generalize H1 = H at hP hS ⊢
          have hP : va_P (dC, dI) clB (mw h ad ka mth mnw mcp mcb mcv mcl (stepF mbl (lsB mbl (secF mto np (nI u) mm) cpN cbN) (u + 1)) (stepF mpl (lsP mpl (secF mto np (nI u) mm) cpN) (u + 1)) (secF mfm np (nI b) mm) (secF mto np (nI u) mm) (fsF mfs np (rs1 (mst f0)) mm) (lsF mls np (rs1 (mst f0)) mm) (dropF (-1) mpg 12) mpn u1 mdi (upd mst f0 (rs1 (mst f0))) mbs 0 (if (plcF mcp mcl mpl (mpg f0) b (u - b)) ≤ men then men else (plcF mcp mcl mpl (mpg f0) b (u - b))) (if (plcF mcp mcl mpl (mpg f0) b (u - b)) ≤ men then mfl else mfl + 1) mrd (mwn + nI mm) (-1)) H := hP
          have hD : va_D A (mw h ad ka mth mnw mcp mcb mcv mcl (stepF mbl (lsB mbl (secF mto np (nI u) mm) cpN cbN) (u + 1)) (stepF mpl (lsP mpl (secF mto np (nI u) mm) cpN) (u + 1)) (secF mfm np (nI b) mm) (secF mto np (nI u) mm) (fsF mfs np (rs1 (mst f0)) mm) (lsF mls np (rs1 (mst f0)) mm) (dropF (-1) mpg 12) mpn u1 mdi (upd mst f0 (rs1 (mst f0))) mbs 0 (if (plcF mcp mcl mpl (mpg f0) b (u - b)) ≤ men then men else (plcF mcp mcl mpl (mpg f0) b (u - b))) (if (plcF mcp mcl mpl (mpg f0) b (u - b)) ≤ men then mfl else mfl + 1) mrd (mwn + nI mm) (-1)) := mw_D hDw
          subst hw
          refine lv_if_ne (tgt := 136) hx hb dM_found_129 (by decide) (fun c_7 => ?_) (fun c_7 => ?_)
          · exact absurd c_7 (by decide)
          · refine lv_iconst (v := (-1)) hx hb dM_found_132 (by decide) ?_
            refine lv_goto (tgt := 137) hx hb dM_found_133 (by decide) ?_
            exact W.iret (v := (-1)) hx hb hr (fun t ht hW => ⟨⟨(-1), (), rfl, rfl, by show va_P _ _ _ t.heap; rw [ht]; exact hP⟩, hS.F ht⟩) hS.2.2 dM_found_137
      · obtain ⟨eg, hk48, hh, hus, hhb⟩ := hdis.resolve_right (fun h9 => c_3 (by rw [h9.1]; exact nI_pos' (by omega)))
        refine lv_aload_n hx hb dM_found_39 rfl (lv_at hl 0 rfl) ?_
        refine va_get (D := (dC, dI)) (ci := 4) (v := .ref (ad 11)) (C := RM) (T := TM) (N := 24) hx hb hts (inC inM) hown hK hP 0 rfl rfl 13 (by decide) (hq _ wi_479) (fun _ h9 => h9) rfl dM_found_40 ?_
        refine lv_aload_n hx hb dM_found_43 rfl (lv_at hl 0 rfl) ?_
        refine va_get (D := (dC, dI)) (ci := 4) (v := .int (nI y.2.2.2)) (C := RM) (T := TM) (N := 24) hx hb hts (inC inM) hown hK hP 0 rfl rfl 18 (by decide) (hq _ wi_484) (fun _ h9 => h9) rfl dM_found_44 ?_
        refine tk_iald (n := y.2.2.2) hx hb hK hP 12 3 rfl rfl rfl hh (by decide) dM_found_47 ?_
        refine lv_if_ne (tgt := 71) hx hb dM_found_48 (by decide) (fun c_8 => ?_) (fun c_8 => ?_)
        · refine lv_aload_n hx hb dM_found_71 rfl (lv_at hl 0 rfl) ?_
          refine va_get (D := (dC, dI)) (ci := 4) (v := .ref (ad 11)) (C := RM) (T := TM) (N := 24) hx hb hts (inC inM) hown hK hP 0 rfl rfl 13 (by decide) (hq _ wi_479) (fun _ h9 => h9) rfl dM_found_72 ?_
          refine lv_aload_n hx hb dM_found_75 rfl (lv_at hl 0 rfl) ?_
          refine va_get (D := (dC, dI)) (ci := 4) (v := .int (nI y.2.2.2)) (C := RM) (T := TM) (N := 24) hx hb hts (inC inM) hown hK hP 0 rfl rfl 18 (by decide) (hq _ wi_484) (fun _ h9 => h9) rfl dM_found_76 ?_
          refine tk_iald (n := y.2.2.2) hx hb hK hP 12 3 rfl rfl rfl hh (by decide) dM_found_79 ?_
          refine lv_if_ne (tgt := 96) hx hb dM_found_80 (by decide) (fun c_9 => ?_) (fun c_9 => ?_)
          · refine lv_aload_n hx hb dM_found_96 rfl (lv_at hl 0 rfl) ?_
            refine lv_aload_n hx hb dM_found_97 rfl (lv_at hl 0 rfl) ?_
            refine va_get (D := (dC, dI)) (ci := 4) (v := .int (nI y.2.2.2)) (C := RM) (T := TM) (N := 24) hx hb hts (inC inM) hown hK hP 0 rfl rfl 18 (by decide) (hq _ wi_484) (fun _ h9 => h9) rfl dM_found_98 ?_
            refine lv_iconst (v := 1) hx hb dM_found_101 (by decide) ?_
            refine lv_iadd hx hb dM_found_102 ?_
            refine lv_bipush (v := 12) hx hb dM_found_103 (by decide) ?_
            refine lv_irem hx hb dM_found_105 (by decide) ?_
            refine va_put (D := (dC, dI)) (ci := 4) (v := .int (((nI y.2.2.2) + 1) - ((nI y.2.2.2) + 1) / 12 * 12)) (ty := .int) (C := RM) (T := TM) (N := 24) hx hb hts (inC inM) tyM tyM_ok nmM hown hK hP hD hS 0 rfl rfl 18 (by decide) (hq _ wi_484) (fun _ h9 => h9) rfl (by decide +kernel) rfl rfl (Nat.le_of_ble_eq_true rfl) dM_found_106 (fun H locs hP hD hS => ?_)
            have hP : va_P (dC, dI) clB (mw h ad ka mth mnw mcp mcb mcv mcl mbl mpl mfm mto mfs mls mpg mpn y.2.2.1 mdi mst mbs (((nI y.2.2.2) + 1) - ((nI y.2.2.2) + 1) / 12 * 12) men mfl mrd mwn mlf) H := hP
            have hD : va_D A (mw h ad ka mth mnw mcp mcb mcv mcl mbl mpl mfm mto mfs mls mpg mpn y.2.2.1 mdi mst mbs (((nI y.2.2.2) + 1) - ((nI y.2.2.2) + 1) / 12 * 12) men mfl mrd mwn mlf) := mw_D hDw
            refine lv_iinc (v := ((nI y.1) + 1)) (lv' := [(2, .int ((nI y.1) + 1)), (0, .ref h), (1, .int (y.2.1))]) hx hb dM_found_109 hl (k := 2) rfl rfl (by decide) rfl (fun ls hl => ?_)
            refine lv_goto (tgt := 29) hx hb dM_found_112 (by decide) ?_
            have hgo := hbU_go hhb htk (fun h9 => c_8 h9.1)
            exact ih (n - 1) (y.1 + 1, y.2.1, (y.2.2.1, nxt y.2.2.2)) _ _ _ (by omega) ⟨by show y.1 + 1 ≤ 49; omega, by show n - 1 = 60 - (y.1 + 1); omega, Or.inl ⟨eg, by show y.1 + 1 ≤ 48; omega, nxt_lt, hus, by have h9 := hgo.2; rw [if_neg c_8, upd_id] at h9; rw [show 48 - y.1 - 1 = 48 - (y.1 + 1) by omega] at h9; exact h9⟩, (by rw [← nxt_rem hh]; exact hP), (mw_D hDw), hS, lv_sub hl [1, 2, 0] (by rw [← nI_1 y.1]; rfl)⟩
          · exact absurd c_9 c_8
        · refine lv_aload_n hx hb dM_found_51 rfl (lv_at hl 0 rfl) ?_
          refine va_get (D := (dC, dI)) (ci := 4) (v := .ref (ad 12)) (C := RM) (T := TM) (N := 24) hx hb hts (inC inM) hown hK hP 0 rfl rfl 14 (by decide) (hq _ wi_480) (fun _ h9 => h9) rfl dM_found_52 ?_
          refine lv_aload_n hx hb dM_found_55 rfl (lv_at hl 0 rfl) ?_
          refine va_get (D := (dC, dI)) (ci := 4) (v := .int (nI y.2.2.2)) (C := RM) (T := TM) (N := 24) hx hb hts (inC inM) hown hK hP 0 rfl rfl 18 (by decide) (hq _ wi_484) (fun _ h9 => h9) rfl dM_found_56 ?_
          refine tk_iald (n := y.2.2.2) hx hb hK hP 13 3 rfl rfl rfl hh (by decide) dM_found_59 ?_
          refine lv_if_ne (tgt := 71) hx hb dM_found_60 (by decide) (fun c_10 => ?_) (fun c_10 => ?_)
          · refine lv_aload_n hx hb dM_found_71 rfl (lv_at hl 0 rfl) ?_
            refine va_get (D := (dC, dI)) (ci := 4) (v := .ref (ad 11)) (C := RM) (T := TM) (N := 24) hx hb hts (inC inM) hown hK hP 0 rfl rfl 13 (by decide) (hq _ wi_479) (fun _ h9 => h9) rfl dM_found_72 ?_
            refine lv_aload_n hx hb dM_found_75 rfl (lv_at hl 0 rfl) ?_
            refine va_get (D := (dC, dI)) (ci := 4) (v := .int (nI y.2.2.2)) (C := RM) (T := TM) (N := 24) hx hb hts (inC inM) hown hK hP 0 rfl rfl 18 (by decide) (hq _ wi_484) (fun _ h9 => h9) rfl dM_found_76 ?_
            refine tk_iald (n := y.2.2.2) hx hb hK hP 12 3 rfl rfl rfl hh (by decide) dM_found_79 ?_
            refine lv_if_ne (tgt := 96) hx hb dM_found_80 (by decide) (fun c_11 => ?_) (fun c_11 => ?_)
            · exact absurd c_8 c_11
            · refine lv_aload_n hx hb dM_found_83 rfl (lv_at hl 0 rfl) ?_
              refine va_get (D := (dC, dI)) (ci := 4) (v := .ref (ad 12)) (C := RM) (T := TM) (N := 24) hx hb hts (inC inM) hown hK hP 0 rfl rfl 14 (by decide) (hq _ wi_480) (fun _ h9 => h9) rfl dM_found_84 ?_
              refine lv_aload_n hx hb dM_found_87 rfl (lv_at hl 0 rfl) ?_
              refine va_get (D := (dC, dI)) (ci := 4) (v := .int (nI y.2.2.2)) (C := RM) (T := TM) (N := 24) hx hb hts (inC inM) hown hK hP 0 rfl rfl 18 (by decide) (hq _ wi_484) (fun _ h9 => h9) rfl dM_found_88 ?_
              refine lv_dup2_11 hx hb dM_found_91 rfl rfl ?_
              refine tk_iald (n := y.2.2.2) hx hb hK hP 13 3 rfl rfl rfl hh (by decide) dM_found_92 ?_
              refine lv_iconst (v := 1) hx hb dM_found_93 (by decide) ?_
              refine lv_isub hx hb dM_found_94 ?_
              refine tk_iast (n := y.2.2.2) hx hb hK hP hD hS 13 3 rfl rfl rfl hh (by decide) dM_found_95 (fun H locs hP hD hS => ?_)
              have hP : va_P (dC, dI) clB (mw h ad ka mth mnw mcp mcb mcv mcl mbl mpl mfm mto mfs mls mpg mpn (upd y.2.2.1 y.2.2.2 ((y.2.2.1 y.2.2.2) - 1)) mdi mst mbs (nI y.2.2.2) men mfl mrd mwn mlf) H := hP
              have hD : va_D A (mw h ad ka mth mnw mcp mcb mcv mcl mbl mpl mfm mto mfs mls mpg mpn (upd y.2.2.1 y.2.2.2 ((y.2.2.1 y.2.2.2) - 1)) mdi mst mbs (nI y.2.2.2) men mfl mrd mwn mlf) := mw_D hDw
              refine lv_aload_n hx hb dM_found_96 rfl (lv_at hl 0 rfl) ?_
              refine lv_aload_n hx hb dM_found_97 rfl (lv_at hl 0 rfl) ?_
              refine va_get (D := (dC, dI)) (ci := 4) (v := .int (nI y.2.2.2)) (C := RM) (T := TM) (N := 24) hx hb hts (inC inM) hown hK hP 0 rfl rfl 18 (by decide) (hq _ wi_484) (fun _ h9 => h9) rfl dM_found_98 ?_
              refine lv_iconst (v := 1) hx hb dM_found_101 (by decide) ?_
              refine lv_iadd hx hb dM_found_102 ?_
              refine lv_bipush (v := 12) hx hb dM_found_103 (by decide) ?_
              refine lv_irem hx hb dM_found_105 (by decide) ?_
              refine va_put (D := (dC, dI)) (ci := 4) (v := .int (((nI y.2.2.2) + 1) - ((nI y.2.2.2) + 1) / 12 * 12)) (ty := .int) (C := RM) (T := TM) (N := 24) hx hb hts (inC inM) tyM tyM_ok nmM hown hK hP hD hS 0 rfl rfl 18 (by decide) (hq _ wi_484) (fun _ h9 => h9) rfl (by decide +kernel) rfl rfl (Nat.le_of_ble_eq_true rfl) dM_found_106 (fun H locs hP hD hS => ?_)
              have hP : va_P (dC, dI) clB (mw h ad ka mth mnw mcp mcb mcv mcl mbl mpl mfm mto mfs mls mpg mpn (upd y.2.2.1 y.2.2.2 ((y.2.2.1 y.2.2.2) - 1)) mdi mst mbs (((nI y.2.2.2) + 1) - ((nI y.2.2.2) + 1) / 12 * 12) men mfl mrd mwn mlf) H := hP
              have hD : va_D A (mw h ad ka mth mnw mcp mcb mcv mcl mbl mpl mfm mto mfs mls mpg mpn (upd y.2.2.1 y.2.2.2 ((y.2.2.1 y.2.2.2) - 1)) mdi mst mbs (((nI y.2.2.2) + 1) - ((nI y.2.2.2) + 1) / 12 * 12) men mfl mrd mwn mlf) := mw_D hDw
              refine lv_iinc (v := ((nI y.1) + 1)) (lv' := [(2, .int ((nI y.1) + 1)), (0, .ref h), (1, .int (y.2.1))]) hx hb dM_found_109 hl (k := 2) rfl rfl (by decide) rfl (fun ls hl => ?_)
              refine lv_goto (tgt := 29) hx hb dM_found_112 (by decide) ?_
              have hgo := hbU_go hhb htk (fun h9 => c_10 h9.2)
              have hdn := dec_nn (hus _ hh) c_10
              exact ih (n - 1) (y.1 + 1, y.2.1, (upd y.2.2.1 y.2.2.2 ((y.2.2.1 y.2.2.2) - 1), nxt y.2.2.2)) _ _ _ (by omega) ⟨by show y.1 + 1 ≤ 49; omega, by show n - 1 = 60 - (y.1 + 1); omega, Or.inl ⟨eg, by show y.1 + 1 ≤ 48; omega, nxt_lt, upd_nn hus hdn.1, by have h9 := hgo.2; rw [if_pos c_8, if_neg hdn.2] at h9; rw [show 48 - y.1 - 1 = 48 - (y.1 + 1) by omega] at h9; exact h9⟩, (by rw [← nxt_rem hh]; exact hP), (mw_D hDw), hS, lv_sub hl [1, 2, 0] (by rw [← nI_1 y.1]; rfl)⟩
          · refine lv_aload_n hx hb dM_found_63 rfl (lv_at hl 0 rfl) ?_
            refine va_get (D := (dC, dI)) (ci := 4) (v := .int (nI y.2.2.2)) (C := RM) (T := TM) (N := 24) hx hb hts (inC inM) hown hK hP 0 rfl rfl 18 (by decide) (hq _ wi_484) (fun _ h9 => h9) rfl dM_found_64 ?_
            refine lv_istore_n (lv' := [(1, .int (nI y.2.2.2)), (0, .ref h), (2, .int (nI y.1))]) hx hb dM_found_67 rfl hl (by decide) rfl (fun ls hl => ?_)
            refine lv_goto (tgt := 96) hx hb dM_found_68 (by decide) ?_
            refine lv_aload_n hx hb dM_found_96 rfl (lv_at hl 1 rfl) ?_
            refine lv_aload_n hx hb dM_found_97 rfl (lv_at hl 1 rfl) ?_
            refine va_get (D := (dC, dI)) (ci := 4) (v := .int (nI y.2.2.2)) (C := RM) (T := TM) (N := 24) hx hb hts (inC inM) hown hK hP 0 rfl rfl 18 (by decide) (hq _ wi_484) (fun _ h9 => h9) rfl dM_found_98 ?_
            refine lv_iconst (v := 1) hx hb dM_found_101 (by decide) ?_
            refine lv_iadd hx hb dM_found_102 ?_
            refine lv_bipush (v := 12) hx hb dM_found_103 (by decide) ?_
            refine lv_irem hx hb dM_found_105 (by decide) ?_
            refine va_put (D := (dC, dI)) (ci := 4) (v := .int (((nI y.2.2.2) + 1) - ((nI y.2.2.2) + 1) / 12 * 12)) (ty := .int) (C := RM) (T := TM) (N := 24) hx hb hts (inC inM) tyM tyM_ok nmM hown hK hP hD hS 0 rfl rfl 18 (by decide) (hq _ wi_484) (fun _ h9 => h9) rfl (by decide +kernel) rfl rfl (Nat.le_of_ble_eq_true rfl) dM_found_106 (fun H locs hP hD hS => ?_)
            have hP : va_P (dC, dI) clB (mw h ad ka mth mnw mcp mcb mcv mcl mbl mpl mfm mto mfs mls mpg mpn y.2.2.1 mdi mst mbs (((nI y.2.2.2) + 1) - ((nI y.2.2.2) + 1) / 12 * 12) men mfl mrd mwn mlf) H := hP
            have hD : va_D A (mw h ad ka mth mnw mcp mcb mcv mcl mbl mpl mfm mto mfs mls mpg mpn y.2.2.1 mdi mst mbs (((nI y.2.2.2) + 1) - ((nI y.2.2.2) + 1) / 12 * 12) men mfl mrd mwn mlf) := mw_D hDw
            refine lv_iinc (v := ((nI y.1) + 1)) (lv' := [(2, .int ((nI y.1) + 1)), (1, .int (nI y.2.2.2)), (0, .ref h)]) hx hb dM_found_109 hl (k := 2) rfl rfl (by decide) rfl (fun ls hl => ?_)
            refine lv_goto (tgt := 29) hx hb dM_found_112 (by decide) ?_
            have hy : y.2.2 = (u1, f0) := (hbU_take (k := 48 - y.1) ⟨c_8, c_10⟩).symm.trans hhb
            exact ih (n - 1) (y.1 + 1, nI y.2.2.2, (y.2.2.1, nxt y.2.2.2)) _ _ _ (by omega) ⟨by show y.1 + 1 ≤ 49; omega, by show n - 1 = 60 - (y.1 + 1); omega, Or.inr ⟨by show nI y.2.2.2 = _; rw [hy], by show (y.2.2.1, nxt y.2.2.2) = _; rw [hy]⟩, (by rw [← nxt_rem hh]; exact hP), (mw_D hDw), hS, lv_sub hl [2, 1, 0] (by rw [← nI_1 y.1]; rfl)⟩
  · have hz : z < 12 := by have := mt (nI_leI (a := 12) (b := z) (by decide) (by omega)).mpr c_1; omega
    refine lv_aload_n hx hb dM_found_8 rfl (lv_at hl 0 rfl) ?_
    refine va_get (D := (dC, dI)) (ci := 4) (v := .ref (ad 10)) (C := RM) (T := TM) (N := 24) hx hb hts (inC inM) hown hK hP 0 rfl rfl 12 (by decide) (hq _ wi_478) (fun _ h9 => h9) rfl dM_found_9 ?_
    refine lv_iload_n hx hb dM_found_12 rfl (lv_at hl 1 rfl) ?_
    refine tk_iald (n := z) hx hb hK hP 11 3 rfl rfl rfl (by omega) (by decide) dM_found_13 ?_
    refine lv_if_ge (tgt := 19) hx hb dM_found_14 (by decide) (fun c_12 => ?_) (fun c_12 => ?_)
    · refine lv_iinc (v := ((nI z) + 1)) (lv' := [(1, .int ((nI z) + 1)), (0, .ref h)]) hx hb dM_found_19 hl (k := 1) rfl rfl (by decide) rfl (fun ls hl => ?_)
      refine lv_goto (tgt := 2) hx hb dM_found_22 (by decide) ?_
      exact ih (n - 1) (z + 1) _ _ _ (by omega) ⟨by omega, by omega, hP, (mw_D hDw), hS, lv_sub hl [1, 0] (by rw [← nI_1 z]; rfl)⟩
    · exact absurd (Int32.not_lt.mp (hall z hz)) c_12
