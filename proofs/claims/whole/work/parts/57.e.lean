set_option maxHeartbeats 4000000 in
set_option maxRecDepth 100000 in
theorem c_M_sweep_ok (l : Launch) (dC : Nat → ClassId) (dI : Nat → Nat → Nat) (ka : Nat → ClassId) (sz : Nat) (h : Nat) (ad : Nat → Nat) (mth mnw : Int32) (mcp mcb mcv mcl mbl mpl mfm mto mfs mls mpg mpn mus mdi mst mbs : Nat → Int32) (mhd men mfl mrd mwn mlf : Int32) (u : Nat) (bN pgN fo : Nat → Nat) (Y : Nat → MS × Nat) (hfo : ∀ p, p < 192 → (fo p < 12 → foM mpg (nI p) 12 = nI (fo p)) ∧ (¬ fo p < 12 → foM mpg (nI p) 12 = -1)) (hgp : ∀ p, p < 192 → fo p < 12 → mpg (fo p) = nI p ∧ pgN (fo p) = p ∧ mbs (fo p) = nI (bN (fo p)) ∧ bN (fo p) ≤ u) (eu : mnw = nI u) (hu : u < 520) (hY : ∀ p, Y p = swG asM (mwrt mcp mcl mpl mpg bN pgN u) fo (mfl, men, mst, mlf, mwn, mfm, mto, mfs, mls, mdi) p) (hok : ∀ p, p < 192 → fo p < 12 → asM (Y p).1 (fo p) = true → mlOK (Y p).1.2.2.2.1) : Met l yM_sweep wM_sweep ({ frames := 3, cells := 0, slots := 0, locals := 70 }) (va_Pc [.ref h] (fun U => U.heap.size = sz ∧ tk_E dC dI ka U ∧ va_P (dC, dI) clB (mw h ad ka mth mnw mcp mcb mcv mcl mbl mpl mfm mto mfs mls mpg mpn mus mdi mst mbs mhd men mfl mrd mwn mlf) U.heap ∧ va_D (fun _ => True) (mw h ad ka mth mnw mcp mcb mcv mcl mbl mpl mfm mto mfs mls mpg mpn mus mdi mst mbs mhd men mfl mrd mwn mlf))) (va_Qi (fun (r : Int32) (_ : Unit) => r = nI (Y 192).2) (fun _ t => va_P (dC, dI) clB (mw h ad ka 0 mnw mcp mcb mcv mcl mbl mpl ((Y 192).1.2.2.2.2.2.1) ((Y 192).1.2.2.2.2.2.2.1) ((Y 192).1.2.2.2.2.2.2.2.1) ((Y 192).1.2.2.2.2.2.2.2.2.1) mpg mpn mus ((Y 192).1.2.2.2.2.2.2.2.2.2) ((Y 192).1.2.2.1) mbs mhd ((Y 192).1.2.1) ((Y 192).1.1) mrd ((Y 192).1.2.2.2.2.1) ((Y 192).1.2.2.2.1)) t.heap) (va_A (mw h ad ka mth mnw mcp mcb mcv mcl mbl mpl mfm mto mfs mls mpg mpn mus mdi mst mbs mhd men mfl mrd mwn mlf) sz)) 0 0 (va_A (mw h ad ka mth mnw mcp mcb mcv mcl mbl mpl mfm mto mfs mls mpg mpn mus mdi mst mbs mhd men mfl mrd mwn mlf) sz) := by
  refine Met.ofW (cc := cM_sweep) (maxL := 4) (ret := (some .int)) (by decide) rfl ?_
  intro p e s m args below meth c s₁ B hml hv
  obtain ⟨rfl, hsz, hE, hP, hD0⟩ := hv
  have hx := B.exec
  have hb := B.bytes
  have hr := B.returns
  have hts := atoms_spec (ws := wM_sweep) B.pre
  have hq : ∀ w ∈ lwg, w.before _ s = true := fun w h => hts w (List.mem_cons_of_mem _ h)
  have hown : s.vm.findClass RM = some m.cls := findClass_of_methodNamed B.named
  have hlocks := B.notSynchronized
  have hK := hE.1
  have hN := hE.2
  subst hsz
  have hD := hD0.self (sz := s.heap.size)
  generalize hAe : va_A (mw h ad ka mth mnw mcp mcb mcv mcl mbl mpl mfm mto mfs mls mpg mpn mus mdi mst mbs mhd men mfl mrd mwn mlf) s.heap.size = A at hD ⊢
  have hA : ∀ q : Nat, s.heap.size ≤ q → A q := fun q h => by rw [← hAe]; exact Or.inr h
  have hS : va_S A s.heap s.heap [] := va_S.rf
  have hDw := hD
  have hP : va_P (dC, dI) clB (mw h ad ka mth mnw mcp mcb mcv mcl mbl mpl mfm mto mfs mls mpg mpn mus mdi mst mbs mhd men mfl mrd mwn mlf) s.heap := hP
  have hl := lv_entry ([.ref h]) (n := 4) (Nat.le_of_ble_eq_true rfl)
  rw [lg_entry_eq]
  generalize (lg_sl ([.ref h]) ++ List.replicate (4 - (lg_sl ([.ref h])).length) Slot.unset).toArray = ls at hl ⊢
  have hl : lv_has ls 4 [(0, .ref h)] := hl
  refine lv_aload_n hx hb dM_sweep_0 rfl (lv_at hl 0 rfl) ?_
  refine lv_iconst (v := 0) hx hb dM_sweep_1 (by decide) ?_
  refine va_put (D := (dC, dI)) (ci := 4) (v := .int 0) (ty := .int) (C := RM) (T := TM) (N := 24) hx hb hts (inC inM) tyM tyM_ok nmM hown hK hP hD hS 0 rfl rfl 0 (by decide) (hq _ wi_466) (fun _ h9 => h9) rfl (by decide +kernel) rfl rfl (Nat.le_of_ble_eq_true rfl) dM_sweep_2 (fun H locs hP hD hS => ?_)
  have hP : va_P (dC, dI) clB (mw h ad ka 0 mnw mcp mcb mcv mcl mbl mpl mfm mto mfs mls mpg mpn mus mdi mst mbs mhd men mfl mrd mwn mlf) H := hP
  have hD : va_D A (mw h ad ka 0 mnw mcp mcb mcv mcl mbl mpl mfm mto mfs mls mpg mpn mus mdi mst mbs mhd men mfl mrd mwn mlf) := mw_D hDw
  refine lv_iconst (v := 0) hx hb dM_sweep_5 (by decide) ?_
  refine lv_istore_n (lv' := [(1, .int 0), (0, .ref h)]) hx hb dM_sweep_6 rfl hl (by decide) rfl (fun ls hl => ?_)
  refine lv_iconst (v := 0) hx hb dM_sweep_7 (by decide) ?_
  refine lv_istore_n (lv' := [(2, .int 0), (1, .int 0), (0, .ref h)]) hx hb dM_sweep_8 rfl hl (by decide) rfl (fun ls hl => ?_)
  have hY0 : Y 0 = ((mfl, men, mst, mlf, mwn, mfm, mto, mfs, mls, mdi), 0) := hY 0
  refine tk_loop 9 (fun (n : Nat) (z : Nat) H locs ls => (z ≤ 192) ∧ (n = 192 - z) ∧ va_P (dC, dI) clB (mw h ad ka 0 mnw mcp mcb mcv mcl mbl mpl ((Y z).1.2.2.2.2.2.1) ((Y z).1.2.2.2.2.2.2.1) ((Y z).1.2.2.2.2.2.2.2.1) ((Y z).1.2.2.2.2.2.2.2.2.1) mpg mpn mus ((Y z).1.2.2.2.2.2.2.2.2.2) ((Y z).1.2.2.1) mbs mhd ((Y z).1.2.1) ((Y z).1.1) mrd ((Y z).1.2.2.2.2.1) ((Y z).1.2.2.2.1)) H ∧ va_D A (mw h ad ka 0 mnw mcp mcb mcv mcl mbl mpl ((Y z).1.2.2.2.2.2.1) ((Y z).1.2.2.2.2.2.2.1) ((Y z).1.2.2.2.2.2.2.2.1) ((Y z).1.2.2.2.2.2.2.2.2.1) mpg mpn mus ((Y z).1.2.2.2.2.2.2.2.2.2) ((Y z).1.2.2.1) mbs mhd ((Y z).1.2.1) ((Y z).1.1) mrd ((Y z).1.2.2.2.2.1) ((Y z).1.2.2.2.1)) ∧ va_S A s.heap H locs ∧ lv_has ls 4 [(0, .ref h), (1, .int (nI (Y z).2)), (2, .int (nI z))]) ?_ 192 0 ⟨Nat.zero_le _, rfl, (by rw [hY0]; exact hP), (mw_D hDw), hS, lv_sub hl [2, 1, 0] (by rw [hY0]; rfl)⟩
  skip
  intro n z H locs ls hI ih
  obtain ⟨hi, hn, hP, hD, hS, hl⟩ := hI
  refine lv_iload_n hx hb dM_sweep_9 rfl (lv_at hl 2 rfl) ?_
  refine lv_sipush (v := 192) hx hb dM_sweep_10 (by decide) ?_
  refine lv_icmp_ge (tgt := 58) hx hb dM_sweep_13 (by decide) (fun c_1 => ?_) (fun c_1 => ?_)
  · have h192 : z = 192 := by have := (nI_leI (a := 192) (b := z) (by decide) (by omega)).mp c_1; omega
    refine lv_iload_n hx hb dM_sweep_58 rfl (lv_at hl 1 rfl) ?_
    exact W.iret (v := (nI (Y z).2)) hx hb hr (fun t ht hW => ⟨⟨(nI (Y z).2), (), rfl, (by rw [h192]), by show va_P _ _ _ t.heap; rw [ht]; exact (h192 ▸ hP)⟩, hS.F ht⟩) hS.2.2 dM_sweep_59
  · rcases Decidable.em (fo z < 12) with hfz | hfz
    · have hz : z < 192 := by have := mt (nI_leI (a := 192) (b := z) (by decide) (by omega)).mpr c_1; omega
      refine lv_aload_n hx hb dM_sweep_16 rfl (lv_at hl 0 rfl) ?_
      refine lv_iload_n hx hb dM_sweep_17 rfl (lv_at hl 2 rfl) ?_
      refine vp_callSi (va_Run.run (va_runV (As := [.int (nI z)]) (rest := []) ⟨hx, hb, hml, hown, hts⟩ (c_M_frameOf l dC dI ka h ad 0 mnw mcp mcb mcv mcl mbl mpl ((Y z).1.2.2.2.2.2.1) ((Y z).1.2.2.2.2.2.2.1) ((Y z).1.2.2.2.2.2.2.2.1) ((Y z).1.2.2.2.2.2.2.2.2.1) mpg mpn mus ((Y z).1.2.2.2.2.2.2.2.2.2) ((Y z).1.2.2.1) mbs mhd ((Y z).1.2.1) ((Y z).1.1) mrd ((Y z).1.2.2.2.2.1) ((Y z).1.2.2.2.1) (nI z) ) (cwV 1 hts (tw_V wi_588 wi_590 wi_16 wi_28 wi_591) rfl rfl rfl (by decide +kernel) ⟨Nat.le_of_ble_eq_true rfl, Nat.le_of_ble_eq_true rfl⟩) ⟨fun a U g mk q => ⟨q.1, tk_E.call q.2.1, q.2.2⟩, va_recv hK hP (ci := 4) (q0 := 0) rfl rfl, fun U hU hW => ⟨rfl, tk_E.warm hW hE, by rw [hU]; exact hP⟩⟩ rfl rfl hl.1 rfl (lv_room (Nat.le_of_ble_eq_true rfl)) dM_sweep_18 ⟨Nat.zero_le _, Nat.zero_le _⟩)) (fun r_2 er_2 => ?_)
      replace er_2 := er_2.trans (((hfo z (by omega)).1 hfz))
      subst er_2
      refine lv_istore_n (lv' := [(3, .int (nI (fo z))), (0, .ref h), (1, .int (nI (Y z).2)), (2, .int (nI z))]) hx hb dM_sweep_21 rfl hl (by decide) rfl (fun ls hl => ?_)
      refine lv_iload_n hx hb dM_sweep_22 rfl (lv_at hl 0 rfl) ?_
      refine lv_if_lt (tgt := 52) hx hb dM_sweep_23 (by decide) (fun c_3 => ?_) (fun c_3 => ?_)
      · exact absurd c_3 (nI_pos (n := fo z) (by omega))
      · refine lv_aload_n hx hb dM_sweep_26 rfl (lv_at hl 1 rfl) ?_
        refine va_get (D := (dC, dI)) (ci := 4) (v := .ref (ad 13)) (C := RM) (T := TM) (N := 24) hx hb hts (inC inM) hown hK hP 0 rfl rfl 15 (by decide) (hq _ wi_481) (fun _ h9 => h9) rfl dM_sweep_27 ?_
        refine lv_iload_n hx hb dM_sweep_30 rfl (lv_at hl 0 rfl) ?_
        refine tk_zald (n := (fo z)) hx hb hK hP 14 4 rfl rfl rfl hfz (by decide) dM_sweep_31 ?_
        refine lv_if_eq (tgt := 52) hx hb dM_sweep_32 (by decide) (fun c_4 => ?_) (fun c_4 => ?_)
        · refine lv_iinc (v := ((nI z) + 1)) (lv' := [(2, .int ((nI z) + 1)), (3, .int (nI (fo z))), (0, .ref h), (1, .int (nI (Y z).2))]) hx hb dM_sweep_52 hl (k := 3) rfl rfl (by decide) rfl (fun ls hl => ?_)
          refine lv_goto (tgt := 9) hx hb dM_sweep_55 (by decide) ?_
          have e : Y (z + 1) = Y z := by rw [hY, hY]; exact swG_no (by rw [← hY]; exact fun h => of_decide_eq_true h.2 c_4)
          have e2 : (Y (z + 1)).2 = (Y z).2 := by rw [e]
          exact ih (n - 1) (z + 1) _ _ _ (by omega) ⟨by omega, by omega, (by rw [e]; exact hP), (mw_D hDw), hS, lv_sub hl [2, 3, 0] (by rw [e2, ← nI_1 z]; rfl)⟩
        · have hdz := c_4
          refine lv_aload_n hx hb dM_sweep_35 rfl (lv_at hl 1 rfl) ?_
          refine lv_iload_n hx hb dM_sweep_36 rfl (lv_at hl 0 rfl) ?_
          have hFc := tk_freeW hD hS hA
          refine va_calli (va_runV (As := [.int (nI (fo z))]) (rest := []) ⟨hx, hb, hml, hown, hts⟩ (c_M_write_ok l dC dI ka _ h ad 0 mnw mcp mcb mcv mcl mbl mpl ((Y z).1.2.2.2.2.2.1) ((Y z).1.2.2.2.2.2.2.1) ((Y z).1.2.2.2.2.2.2.2.1) ((Y z).1.2.2.2.2.2.2.2.2.1) mpg mpn mus ((Y z).1.2.2.2.2.2.2.2.2.2) ((Y z).1.2.2.1) mbs mhd ((Y z).1.2.1) ((Y z).1.1) mrd ((Y z).1.2.2.2.2.1) ((Y z).1.2.2.2.1) (nI (fo z)) (fo z) z (bN (fo z)) u rfl hfz (hgp z (by omega) hfz).1 (by omega) (hgp z (by omega) hfz).2.2.1 eu (hgp z (by omega) hfz).2.2.2 hu (hok z (by omega) hfz (decide_eq_true hdz))) (cwV 1 hts (tw_V wi_600 wi_602 wi_19 wi_28 wi_603) rfl rfl rfl (by decide +kernel) ⟨Nat.le_of_ble_eq_true rfl, Nat.le_of_ble_eq_true rfl⟩) ⟨fun a U g mk q => ⟨q.1, q.2.1, tk_E.call q.2.2.1, q.2.2.2⟩, va_recv hK hP (ci := 4) (q0 := 0) rfl rfl, fun U hU hW => ⟨rfl, by rw [hU], tk_E.warm hW hE, by rw [hU]; exact hP, hD.weaken (fun _ _ _ _ => trivial)⟩⟩ rfl rfl hl.1 rfl (lv_room (Nat.le_of_ble_eq_true rfl)) dM_sweep_37 ⟨Nat.zero_le _, Nat.zero_le _⟩) hS (fun q _ h => hFc q h) hFc (fun r_6 u_5 t H1 locs ht hvm hw hB hz1 hk1 hS => ?_)
          have hB : va_P (dC, dI) clB (mw h ad ka 0 mnw mcp mcb mcv mcl mbl mpl (secF ((Y z).1.2.2.2.2.2.1) z (nI (bN (fo z))) 8) (secF ((Y z).1.2.2.2.2.2.2.1) z (nI u) 8) (fsF ((Y z).1.2.2.2.2.2.2.2.1) z (rs1 (((Y z).1.2.2.1) (fo z))) 8) (lsF ((Y z).1.2.2.2.2.2.2.2.2.1) z (rs1 (((Y z).1.2.2.1) (fo z))) 8) mpg mpn mus (upd ((Y z).1.2.2.2.2.2.2.2.2.2) (fo z) 0) (upd ((Y z).1.2.2.1) (fo z) (rs1 (((Y z).1.2.2.1) (fo z)))) mbs mhd (if (plcF mcp mcl mpl (mpg (fo z)) (bN (fo z)) (u - (bN (fo z)))) ≤ (Y z).1.2.1 then (Y z).1.2.1 else (plcF mcp mcl mpl (mpg (fo z)) (bN (fo z)) (u - (bN (fo z))))) (if (plcF mcp mcl mpl (mpg (fo z)) (bN (fo z)) (u - (bN (fo z)))) ≤ (Y z).1.2.1 then (Y z).1.1 else (Y z).1.1 + 1) mrd ((Y z).1.2.2.2.2.1 + nI 8) (mlA ((Y z).1.2.2.2.1) 8)) H1 := by rw [← ht]; exact hB
          obtain ⟨hP, hD⟩ := (⟨hB, mw_D hDw⟩ : va_P (dC, dI) clB (mw h ad ka 0 mnw mcp mcb mcv mcl mbl mpl (secF ((Y z).1.2.2.2.2.2.1) z (nI (bN (fo z))) 8) (secF ((Y z).1.2.2.2.2.2.2.1) z (nI u) 8) (fsF ((Y z).1.2.2.2.2.2.2.2.1) z (rs1 (((Y z).1.2.2.1) (fo z))) 8) (lsF ((Y z).1.2.2.2.2.2.2.2.2.1) z (rs1 (((Y z).1.2.2.1) (fo z))) 8) mpg mpn mus (upd ((Y z).1.2.2.2.2.2.2.2.2.2) (fo z) 0) (upd ((Y z).1.2.2.1) (fo z) (rs1 (((Y z).1.2.2.1) (fo z)))) mbs mhd (if (plcF mcp mcl mpl (mpg (fo z)) (bN (fo z)) (u - (bN (fo z)))) ≤ (Y z).1.2.1 then (Y z).1.2.1 else (plcF mcp mcl mpl (mpg (fo z)) (bN (fo z)) (u - (bN (fo z))))) (if (plcF mcp mcl mpl (mpg (fo z)) (bN (fo z)) (u - (bN (fo z)))) ≤ (Y z).1.2.1 then (Y z).1.1 else (Y z).1.1 + 1) mrd ((Y z).1.2.2.2.2.1 + nI 8) (mlA ((Y z).1.2.2.2.1) 8)) H1 ∧ va_D A (mw h ad ka 0 mnw mcp mcb mcv mcl mbl mpl (secF ((Y z).1.2.2.2.2.2.1) z (nI (bN (fo z))) 8) (secF ((Y z).1.2.2.2.2.2.2.1) z (nI u) 8) (fsF ((Y z).1.2.2.2.2.2.2.2.1) z (rs1 (((Y z).1.2.2.1) (fo z))) 8) (lsF ((Y z).1.2.2.2.2.2.2.2.2.1) z (rs1 (((Y z).1.2.2.1) (fo z))) 8) mpg mpn mus (upd ((Y z).1.2.2.2.2.2.2.2.2.2) (fo z) 0) (upd ((Y z).1.2.2.1) (fo z) (rs1 (((Y z).1.2.2.1) (fo z)))) mbs mhd (if (plcF mcp mcl mpl (mpg (fo z)) (bN (fo z)) (u - (bN (fo z)))) ≤ (Y z).1.2.1 then (Y z).1.2.1 else (plcF mcp mcl mpl (mpg (fo z)) (bN (fo z)) (u - (bN (fo z))))) (if (plcF mcp mcl mpl (mpg (fo z)) (bN (fo z)) (u - (bN (fo z)))) ≤ (Y z).1.2.1 then (Y z).1.1 else (Y z).1.1 + 1) mrd ((Y z).1.2.2.2.2.1 + nI 8) (mlA ((Y z).1.2.2.2.1) 8)))
          generalize H1 = H at hP hS ⊢
          have hP : va_P (dC, dI) clB (mw h ad ka 0 mnw mcp mcb mcv mcl mbl mpl (secF ((Y z).1.2.2.2.2.2.1) z (nI (bN (fo z))) 8) (secF ((Y z).1.2.2.2.2.2.2.1) z (nI u) 8) (fsF ((Y z).1.2.2.2.2.2.2.2.1) z (rs1 (((Y z).1.2.2.1) (fo z))) 8) (lsF ((Y z).1.2.2.2.2.2.2.2.2.1) z (rs1 (((Y z).1.2.2.1) (fo z))) 8) mpg mpn mus (upd ((Y z).1.2.2.2.2.2.2.2.2.2) (fo z) 0) (upd ((Y z).1.2.2.1) (fo z) (rs1 (((Y z).1.2.2.1) (fo z)))) mbs mhd (if (plcF mcp mcl mpl (mpg (fo z)) (bN (fo z)) (u - (bN (fo z)))) ≤ (Y z).1.2.1 then (Y z).1.2.1 else (plcF mcp mcl mpl (mpg (fo z)) (bN (fo z)) (u - (bN (fo z))))) (if (plcF mcp mcl mpl (mpg (fo z)) (bN (fo z)) (u - (bN (fo z)))) ≤ (Y z).1.2.1 then (Y z).1.1 else (Y z).1.1 + 1) mrd ((Y z).1.2.2.2.2.1 + nI 8) (mlA ((Y z).1.2.2.2.1) 8)) H := hP
          have hD : va_D A (mw h ad ka 0 mnw mcp mcb mcv mcl mbl mpl (secF ((Y z).1.2.2.2.2.2.1) z (nI (bN (fo z))) 8) (secF ((Y z).1.2.2.2.2.2.2.1) z (nI u) 8) (fsF ((Y z).1.2.2.2.2.2.2.2.1) z (rs1 (((Y z).1.2.2.1) (fo z))) 8) (lsF ((Y z).1.2.2.2.2.2.2.2.2.1) z (rs1 (((Y z).1.2.2.1) (fo z))) 8) mpg mpn mus (upd ((Y z).1.2.2.2.2.2.2.2.2.2) (fo z) 0) (upd ((Y z).1.2.2.1) (fo z) (rs1 (((Y z).1.2.2.1) (fo z)))) mbs mhd (if (plcF mcp mcl mpl (mpg (fo z)) (bN (fo z)) (u - (bN (fo z)))) ≤ (Y z).1.2.1 then (Y z).1.2.1 else (plcF mcp mcl mpl (mpg (fo z)) (bN (fo z)) (u - (bN (fo z))))) (if (plcF mcp mcl mpl (mpg (fo z)) (bN (fo z)) (u - (bN (fo z)))) ≤ (Y z).1.2.1 then (Y z).1.1 else (Y z).1.1 + 1) mrd ((Y z).1.2.2.2.2.1 + nI 8) (mlA ((Y z).1.2.2.2.1) 8)) := mw_D hDw
          subst hw
          refine lv_if_ne (tgt := 49) hx hb dM_sweep_40 (by decide) (fun c_7 => ?_) (fun c_7 => ?_)
          · refine lv_iinc (v := ((nI (Y z).2) + 1)) (lv' := [(1, .int ((nI (Y z).2) + 1)), (3, .int (nI (fo z))), (0, .ref h), (2, .int (nI z))]) hx hb dM_sweep_49 hl (k := 2) rfl rfl (by decide) rfl (fun ls hl => ?_)
            refine lv_iinc (v := ((nI z) + 1)) (lv' := [(2, .int ((nI z) + 1)), (1, .int ((nI (Y z).2) + 1)), (3, .int (nI (fo z))), (0, .ref h)]) hx hb dM_sweep_52 hl (k := 3) rfl rfl (by decide) rfl (fun ls hl => ?_)
            refine lv_goto (tgt := 9) hx hb dM_sweep_55 (by decide) ?_
            have e : Y (z + 1) = ((mwrt mcp mcl mpl mpg bN pgN u) (Y z).1 (fo z), (Y z).2 + 1) := by rw [hY, hY]; exact swG_yes hfz (by rw [← hY]; exact decide_eq_true hdz)
            have e2 : (Y (z + 1)).2 = (Y z).2 + 1 := by rw [e]
            have hgz : pgN (fo z) = z := (hgp z (by omega) hfz).2.1
            have qmfl : (Y (z + 1)).1.1 = (if (plcF mcp mcl mpl (mpg (fo z)) (bN (fo z)) (u - (bN (fo z)))) ≤ (Y z).1.2.1 then (Y z).1.1 else (Y z).1.1 + 1) := by rw [e, mwrt_eq, hgz]
            have qmen : (Y (z + 1)).1.2.1 = (if (plcF mcp mcl mpl (mpg (fo z)) (bN (fo z)) (u - (bN (fo z)))) ≤ (Y z).1.2.1 then (Y z).1.2.1 else (plcF mcp mcl mpl (mpg (fo z)) (bN (fo z)) (u - (bN (fo z))))) := by rw [e, mwrt_eq, hgz]
            have qmst : (Y (z + 1)).1.2.2.1 = (upd ((Y z).1.2.2.1) (fo z) (rs1 (((Y z).1.2.2.1) (fo z)))) := by rw [e, mwrt_eq, hgz]
            have qmlf : (Y (z + 1)).1.2.2.2.1 = (mlA ((Y z).1.2.2.2.1) 8) := by rw [e, mwrt_eq, hgz]
            have qmwn : (Y (z + 1)).1.2.2.2.2.1 = ((Y z).1.2.2.2.2.1 + nI 8) := by rw [e, mwrt_eq, hgz]
            have qmfm : (Y (z + 1)).1.2.2.2.2.2.1 = (secF ((Y z).1.2.2.2.2.2.1) z (nI (bN (fo z))) 8) := by rw [e, mwrt_eq, hgz]
            have qmto : (Y (z + 1)).1.2.2.2.2.2.2.1 = (secF ((Y z).1.2.2.2.2.2.2.1) z (nI u) 8) := by rw [e, mwrt_eq, hgz]
            have qmfs : (Y (z + 1)).1.2.2.2.2.2.2.2.1 = (fsF ((Y z).1.2.2.2.2.2.2.2.1) z (rs1 (((Y z).1.2.2.1) (fo z))) 8) := by rw [e, mwrt_eq, hgz]
            have qmls : (Y (z + 1)).1.2.2.2.2.2.2.2.2.1 = (lsF ((Y z).1.2.2.2.2.2.2.2.2.1) z (rs1 (((Y z).1.2.2.1) (fo z))) 8) := by rw [e, mwrt_eq, hgz]
            have qmdi : (Y (z + 1)).1.2.2.2.2.2.2.2.2.2 = (upd ((Y z).1.2.2.2.2.2.2.2.2.2) (fo z) 0) := by rw [e, mwrt_eq, hgz]
            exact ih (n - 1) (z + 1) _ _ _ (by omega) ⟨by omega, by omega, (by rw [qmfl, qmen, qmst, qmlf, qmwn, qmfm, qmto, qmfs, qmls, qmdi]; exact hP), (mw_D hDw), hS, lv_sub hl [3, 1, 0] (by rw [e2, ← nI_1 z, ← nI_1 (Y z).2]; rfl)⟩
          · exact absurd c_7 (by decide)
    · have hz : z < 192 := by have := mt (nI_leI (a := 192) (b := z) (by decide) (by omega)).mpr c_1; omega
      refine lv_aload_n hx hb dM_sweep_16 rfl (lv_at hl 0 rfl) ?_
      refine lv_iload_n hx hb dM_sweep_17 rfl (lv_at hl 2 rfl) ?_
      refine vp_callSi (va_Run.run (va_runV (As := [.int (nI z)]) (rest := []) ⟨hx, hb, hml, hown, hts⟩ (c_M_frameOf l dC dI ka h ad 0 mnw mcp mcb mcv mcl mbl mpl ((Y z).1.2.2.2.2.2.1) ((Y z).1.2.2.2.2.2.2.1) ((Y z).1.2.2.2.2.2.2.2.1) ((Y z).1.2.2.2.2.2.2.2.2.1) mpg mpn mus ((Y z).1.2.2.2.2.2.2.2.2.2) ((Y z).1.2.2.1) mbs mhd ((Y z).1.2.1) ((Y z).1.1) mrd ((Y z).1.2.2.2.2.1) ((Y z).1.2.2.2.1) (nI z) ) (cwV 1 hts (tw_V wi_588 wi_590 wi_16 wi_28 wi_591) rfl rfl rfl (by decide +kernel) ⟨Nat.le_of_ble_eq_true rfl, Nat.le_of_ble_eq_true rfl⟩) ⟨fun a U g mk q => ⟨q.1, tk_E.call q.2.1, q.2.2⟩, va_recv hK hP (ci := 4) (q0 := 0) rfl rfl, fun U hU hW => ⟨rfl, tk_E.warm hW hE, by rw [hU]; exact hP⟩⟩ rfl rfl hl.1 rfl (lv_room (Nat.le_of_ble_eq_true rfl)) dM_sweep_18 ⟨Nat.zero_le _, Nat.zero_le _⟩)) (fun r_8 er_8 => ?_)
      replace er_8 := er_8.trans (((hfo z (by omega)).2 hfz))
      subst er_8
      refine lv_istore_n (lv' := [(3, .int (-1)), (0, .ref h), (1, .int (nI (Y z).2)), (2, .int (nI z))]) hx hb dM_sweep_21 rfl hl (by decide) rfl (fun ls hl => ?_)
      refine lv_iload_n hx hb dM_sweep_22 rfl (lv_at hl 0 rfl) ?_
      refine lv_if_lt (tgt := 52) hx hb dM_sweep_23 (by decide) (fun c_9 => ?_) (fun c_9 => ?_)
      · refine lv_iinc (v := ((nI z) + 1)) (lv' := [(2, .int ((nI z) + 1)), (3, .int (-1)), (0, .ref h), (1, .int (nI (Y z).2))]) hx hb dM_sweep_52 hl (k := 3) rfl rfl (by decide) rfl (fun ls hl => ?_)
        refine lv_goto (tgt := 9) hx hb dM_sweep_55 (by decide) ?_
        have e : Y (z + 1) = Y z := by rw [hY, hY]; exact swG_no (fun h => hfz h.1)
        have e2 : (Y (z + 1)).2 = (Y z).2 := by rw [e]
        exact ih (n - 1) (z + 1) _ _ _ (by omega) ⟨by omega, by omega, (by rw [e]; exact hP), (mw_D hDw), hS, lv_sub hl [2, 3, 0] (by rw [e2, ← nI_1 z]; rfl)⟩
      · exact absurd c_9 (by decide)
