set_option maxHeartbeats 4000000 in
set_option maxRecDepth 100000 in
theorem c_B_clean_ok (l : Launch) (dC : Nat → ClassId) (dI : Nat → Nat → Nat) (ka : Nat → ClassId) (sz : Nat) (h dr db lg fa : Nat) (fr fb : Nat → Nat) (pg pn us di : Nat → Int32) (bt : Nat → Nat → Int32) (dk : Nat → Int32) (lf wn rd en fl : Int32) (q : Nat) (x : Int32) (nn : Nat) (pgN : Nat → Nat) (Y : Nat → DS × Nat) (ex : x = nI nn) (h1 : 1 ≤ nn) (h12 : nn ≤ 12) (hq0 : q < 12) (hpN : ∀ f, f < 12 → ¬ di f = 0 → pg f = nI (pgN f) ∧ pgN f < 192) (hF : ∀ f, f < 12 → sb_Fit (bt f)) (hY : ∀ k, Y k = clG (actC pn) (dwrt pgN) nn q (di, bt, dk, lf, wn, en, fl) k) (hok : ∀ k, k < 12 → (Y k).2 < nn → actC pn (Y k).1 (cf q k) = true → lfOK (Y k).1.2.2.2.1) : Met l yB_clean wB_clean ({ frames := 3, cells := 0, slots := 0, locals := 106 }) (va_Pc [.ref h, .int x] (fun U => U.heap.size = sz ∧ tk_E dC dI ka U ∧ va_P (dC, dI) clB (dw h dr db lg fa fr fb ka pg pn us di bt dk lf wn rd en fl (nI q)) U.heap ∧ va_D (fun _ => True) (dw h dr db lg fa fr fb ka pg pn us di bt dk lf wn rd en fl (nI q)))) (va_Qi (fun (r : Int32) (_ : Unit) => r = nI (Y 12).2) (fun _ t => va_P (dC, dI) clB (dw h dr db lg fa fr fb ka pg pn us ((Y 12).1.1) ((Y 12).1.2.1) ((Y 12).1.2.2.1) ((Y 12).1.2.2.2.1) ((Y 12).1.2.2.2.2.1) rd ((Y 12).1.2.2.2.2.2.1) ((Y 12).1.2.2.2.2.2.2) (nI q)) t.heap) (va_A (dw h dr db lg fa fr fb ka pg pn us di bt dk lf wn rd en fl (nI q)) sz)) 0 0 (va_A (dw h dr db lg fa fr fb ka pg pn us di bt dk lf wn rd en fl (nI q)) sz) := by
  refine Met.ofW (cc := cB_clean) (maxL := 5) (ret := (some .int)) (by decide) rfl ?_
  intro p e s m args below meth c s₁ B hml hv
  obtain ⟨rfl, hsz, hE, hP, hD0⟩ := hv
  have hx := B.exec
  have hb := B.bytes
  have hr := B.returns
  have hts := atoms_spec (ws := wB_clean) B.pre
  have hq : ∀ w ∈ lwg, w.before _ s = true := fun w h => hts w (List.mem_cons_of_mem _ h)
  have hown : s.vm.findClass RB = some m.cls := findClass_of_methodNamed B.named
  have hlocks := B.notSynchronized
  have hK := hE.1
  have hN := hE.2
  subst hsz
  have hD := hD0.self (sz := s.heap.size)
  generalize hAe : va_A (dw h dr db lg fa fr fb ka pg pn us di bt dk lf wn rd en fl (nI q)) s.heap.size = A at hD ⊢
  have hA : ∀ q : Nat, s.heap.size ≤ q → A q := fun q h => by rw [← hAe]; exact Or.inr h
  have hS : va_S A s.heap s.heap [] := va_S.rf
  have hDw := hD
  have hP : va_P (dC, dI) clB (dw h dr db lg fa fr fb ka pg pn us di bt dk lf wn rd en fl (nI q)) s.heap := hP
  have hl := lv_entry ([.ref h, .int x]) (n := 5) (Nat.le_of_ble_eq_true rfl)
  rw [lg_entry_eq]
  generalize (lg_sl ([.ref h, .int x]) ++ List.replicate (5 - (lg_sl ([.ref h, .int x])).length) Slot.unset).toArray = ls at hl ⊢
  have hl : lv_has ls 5 [(0, .ref h), (1, .int x)] := hl
  refine lv_iload_n hx hb dB_clean_0 rfl (lv_at hl 1 rfl) ?_
  refine lv_iconst (v := 1) hx hb dB_clean_1 (by decide) ?_
  refine lv_icmp_lt (tgt := 11) hx hb dB_clean_2 (by decide) (fun c_1 => ?_) (fun c_1 => ?_)
  · exact absurd c_1 (by rw [ex]; exact nI_nlt (b := 1) h1 (by omega))
  · refine lv_iload_n hx hb dB_clean_5 rfl (lv_at hl 1 rfl) ?_
    refine lv_bipush (v := 12) hx hb dB_clean_6 (by decide) ?_
    refine lv_icmp_le (tgt := 21) hx hb dB_clean_8 (by decide) (fun c_2 => ?_) (fun c_2 => ?_)
    · refine lv_iconst (v := 0) hx hb dB_clean_21 (by decide) ?_
      refine lv_istore_n (lv' := [(2, .int 0), (0, .ref h), (1, .int x)]) hx hb dB_clean_22 rfl hl (by decide) rfl (fun ls hl => ?_)
      refine lv_aload_n hx hb dB_clean_23 rfl (lv_at hl 1 rfl) ?_
      refine va_get (D := (dC, dI)) (ci := 3) (v := .int (nI q)) (C := RB) (T := TB) (N := 4) hx hb hts (inC inB) hown hK hP 0 rfl rfl 3 (by decide) (hq _ wi_117) (fun _ h9 => h9) rfl dB_clean_24 ?_
      refine lv_istore_n (lv' := [(3, .int (nI q)), (2, .int 0), (0, .ref h), (1, .int x)]) hx hb dB_clean_27 rfl hl (by decide) rfl (fun ls hl => ?_)
      refine lv_iconst (v := 0) hx hb dB_clean_28 (by decide) ?_
      refine lv_istore (lv' := [(4, .int 0), (3, .int (nI q)), (2, .int 0), (0, .ref h), (1, .int x)]) hx hb dB_clean_29 hl (by decide) rfl (fun ls hl => ?_)
      have hDI : ∀ k, dsI di (Y k).1 := fun k => by rw [hY]; exact cl_dsI (X := (di, bt, dk, lf, wn, en, fl)) hF k
      have hY0 : Y 0 = ((di, bt, dk, lf, wn, en, fl), 0) := hY 0
      refine tk_loop 31 (fun (n : Nat) (k : Nat) H locs ls => (k ≤ 12) ∧ (n = 12 - k) ∧ va_P (dC, dI) clB (dw h dr db lg fa fr fb ka pg pn us ((Y k).1.1) ((Y k).1.2.1) ((Y k).1.2.2.1) ((Y k).1.2.2.2.1) ((Y k).1.2.2.2.2.1) rd ((Y k).1.2.2.2.2.2.1) ((Y k).1.2.2.2.2.2.2) (nI q)) H ∧ va_D A (dw h dr db lg fa fr fb ka pg pn us ((Y k).1.1) ((Y k).1.2.1) ((Y k).1.2.2.1) ((Y k).1.2.2.2.1) ((Y k).1.2.2.2.2.1) rd ((Y k).1.2.2.2.2.2.1) ((Y k).1.2.2.2.2.2.2) (nI q)) ∧ va_S A s.heap H locs ∧ lv_has ls 5 [(0, .ref h), (1, .int x), (2, .int (nI (Y k).2)), (3, .int (nI (cf q k))), (4, .int (nI k))]) ?_ 12 0 ⟨Nat.zero_le _, rfl, (by rw [hY0]; exact hP), (dw_D hDw), hS, lv_sub hl [3, 4, 2, 1, 0] (by rw [cf_0 hq0, hY0]; rfl)⟩
      skip
      intro n k H locs ls hI ih
      obtain ⟨hi, hn, hP, hD, hS, hl⟩ := hI
      have hle : (Y k).2 ≤ k := by rw [hY]; exact clG_le k
      refine lv_iload hx hb dB_clean_31 (lv_at hl 4 rfl) ?_
      refine lv_bipush (v := 12) hx hb dB_clean_33 (by decide) ?_
      refine lv_icmp_ge (tgt := 91) hx hb dB_clean_35 (by decide) (fun c_3 => ?_) (fun c_3 => ?_)
      · have hfin : Y 12 = Y k := by rw [show k = 12 by (have := (nI_leI (a := 12) (b := k) (by decide) (by omega)).mp c_3; omega)]
        refine lv_iload_n hx hb dB_clean_91 rfl (lv_at hl 2 rfl) ?_
        exact W.iret (v := (nI (Y k).2)) hx hb hr (fun t ht hW => ⟨⟨(nI (Y k).2), (), rfl, (by rw [hfin]), by show va_P _ _ _ t.heap; rw [ht]; exact (by rw [hfin]; exact hP)⟩, hS.F ht⟩) hS.2.2 dB_clean_92
      · refine lv_iload_n hx hb dB_clean_38 rfl (lv_at hl 2 rfl) ?_
        refine lv_iload_n hx hb dB_clean_39 rfl (lv_at hl 1 rfl) ?_
        refine lv_icmp_ge (tgt := 91) hx hb dB_clean_40 (by decide) (fun c_4 => ?_) (fun c_4 => ?_)
        · have hfin : Y 12 = Y k := by have h9 := clG_stop (act := actC pn) (wr := dwrt pgN) (n := nn) (q := q) (X := (di, bt, dk, lf, wn, en, fl)) (k := k) (j := 12 - k) (by rw [← hY]; exact fun h => absurd c_4 (by rw [ex]; exact nI_ge h (by omega))); rw [show k + (12 - k) = 12 by omega, ← hY, ← hY] at h9; exact h9
          refine lv_iload_n hx hb dB_clean_91 rfl (lv_at hl 2 rfl) ?_
          exact W.iret (v := (nI (Y k).2)) hx hb hr (fun t ht hW => ⟨⟨(nI (Y k).2), (), rfl, (by rw [hfin]), by show va_P _ _ _ t.heap; rw [ht]; exact (by rw [hfin]; exact hP)⟩, hS.F ht⟩) hS.2.2 dB_clean_92
        · have hz : k < 12 := by have := mt (nI_leI (a := 12) (b := k) (by decide) (by omega)).mpr c_3; omega
          have hlt : (Y k).2 < nn := by rcases Nat.lt_or_ge (Y k).2 nn with g | g; exact g; exact absurd (by rw [ex]; exact nI_le g (by omega)) c_4
          refine lv_aload_n hx hb dB_clean_43 rfl (lv_at hl 0 rfl) ?_
          refine va_get (D := (dC, dI)) (ci := 3) (v := .ref fa) (C := RB) (T := TB) (N := 4) hx hb hts (inC inB) hown hK hP 0 rfl rfl 2 (by decide) (hq _ wi_116) (fun _ h9 => h9) rfl dB_clean_44 ?_
          refine lv_iload_n hx hb dB_clean_47 rfl (lv_at hl 3 rfl) ?_
          refine tk_aald (n := (cf q k)) (y := fr (cf q k)) hx hb hK hP 4 1 rfl rfl rfl cf_lt (by decide) rfl dB_clean_48 ?_
          refine va_getN (D := (dC, dI)) (ci := 1) (v := .int (((Y k).1.1) (cf q k))) (C := RF) (T := TF) (N := 5) hx hb hts (inC inF) hown hK hP (5 + (cf q k)) (dw_fr cf_lt) rfl 4 (by decide) (va_Nw.use rfl (hN _ ns_12)) (fun _ h9 => h9) rfl dB_clean_49 ?_
          refine lv_if_eq (tgt := 80) hx hb dB_clean_52 (by decide) (fun c_5 => ?_) (fun c_5 => ?_)
          · refine lv_iload_n hx hb dB_clean_80 rfl (lv_at hl 3 rfl) ?_
            refine vp_callSi (va_Run.run (va_runS (As := [.int (nI (cf q k))]) (rest := []) ⟨hx, hb, hml, hown, hts⟩ (c_B_frameBehind l dC dI ka (nI (cf q k))) (cwS 1 hts (tw_S wi_354 wi_355 wi_24 wi_356) rfl rfl rfl (by decide +kernel) ⟨Nat.le_of_ble_eq_true rfl, Nat.le_of_ble_eq_true rfl⟩) ⟨fun a U g mk q => ⟨q.1, tk_E.call q.2.1, q.2.2⟩, fun U hU hW => ⟨rfl, tk_E.warm hW hE, by rw [hU]; exact (fun k q h => by simp at h)⟩⟩ rfl rfl hl.1 rfl (lv_room (Nat.le_of_ble_eq_true rfl)) dB_clean_81 ⟨Nat.zero_le _, Nat.zero_le _⟩)) (fun r_6 er_6 => ?_)
            replace er_6 := er_6.trans ((nxt_nI cf_lt).trans (congrArg nI (cf_s q k)))
            subst er_6
            refine lv_istore_n (lv' := [(3, .int (nI (cf q (k + 1)))), (0, .ref h), (1, .int x), (2, .int (nI (Y k).2)), (4, .int (nI k))]) hx hb dB_clean_84 rfl hl (by decide) rfl (fun ls hl => ?_)
            refine lv_iinc (v := ((nI k) + 1)) (lv' := [(4, .int ((nI k) + 1)), (3, .int (nI (cf q (k + 1)))), (0, .ref h), (1, .int x), (2, .int (nI (Y k).2))]) hx hb dB_clean_85 hl (k := 4) rfl rfl (by decide) rfl (fun ls hl => ?_)
            refine lv_goto (tgt := 31) hx hb dB_clean_88 (by decide) ?_
            have e : Y (k + 1) = Y k := by rw [hY, hY]; exact clG_no (by rw [← hY]; exact fun h => (of_decide_eq_true h).1 c_5)
            have e2 : (Y (k + 1)).2 = (Y k).2 := by rw [e]
            exact ih (n - 1) (k + 1) _ _ _ (by omega) ⟨by omega, by omega, (by rw [e]; exact hP), (dw_D hDw), hS, lv_sub hl [2, 3, 4, 1, 0] (by rw [e2, ← nI_1 k]; rfl)⟩
          · refine lv_aload_n hx hb dB_clean_55 rfl (lv_at hl 0 rfl) ?_
            refine va_get (D := (dC, dI)) (ci := 3) (v := .ref fa) (C := RB) (T := TB) (N := 4) hx hb hts (inC inB) hown hK hP 0 rfl rfl 2 (by decide) (hq _ wi_116) (fun _ h9 => h9) rfl dB_clean_56 ?_
            refine lv_iload_n hx hb dB_clean_59 rfl (lv_at hl 3 rfl) ?_
            refine tk_aald (n := (cf q k)) (y := fr (cf q k)) hx hb hK hP 4 1 rfl rfl rfl cf_lt (by decide) rfl dB_clean_60 ?_
            refine vp_callSi (va_Run.run (va_runV (As := []) (rest := []) ⟨hx, hb, hml, hown, hts⟩ (c_F_hasPins l dC dI ka (fr (cf q k)) (fb (cf q k)) (pg (cf q k)) (pn (cf q k)) (us (cf q k)) (((Y k).1.1) (cf q k))) (cwV 0 hts (tw_V wi_134 wi_135 wi_136 wi_27 wi_137) rfl rfl rfl (by decide +kernel) ⟨Nat.le_of_ble_eq_true rfl, Nat.le_of_ble_eq_true rfl⟩) ⟨fun a U g mk q => ⟨q.1, tk_E.call q.2.1, q.2.2⟩, va_recv hK hP (ci := 1) (q0 := (5 + (cf q k))) rfl (dw_fr cf_lt), fun U hU hW => ⟨rfl, tk_E.warm hW hE, by rw [hU]; exact (tk_one hP (k := 5 + (cf q k)) (dw_fr cf_lt))⟩⟩ rfl rfl hl.1 rfl (lv_room (Nat.le_of_ble_eq_true rfl)) dB_clean_61 ⟨Nat.zero_le _, Nat.zero_le _⟩)) (fun r_7 er_7 => ?_)
            subst er_7
            refine lv_if_ne (tgt := 80) hx hb dB_clean_64 (by decide) (fun c_8 => ?_) (fun c_8 => ?_)
            · refine lv_iload_n hx hb dB_clean_80 rfl (lv_at hl 3 rfl) ?_
              refine vp_callSi (va_Run.run (va_runS (As := [.int (nI (cf q k))]) (rest := []) ⟨hx, hb, hml, hown, hts⟩ (c_B_frameBehind l dC dI ka (nI (cf q k))) (cwS 1 hts (tw_S wi_354 wi_355 wi_24 wi_356) rfl rfl rfl (by decide +kernel) ⟨Nat.le_of_ble_eq_true rfl, Nat.le_of_ble_eq_true rfl⟩) ⟨fun a U g mk q => ⟨q.1, tk_E.call q.2.1, q.2.2⟩, fun U hU hW => ⟨rfl, tk_E.warm hW hE, by rw [hU]; exact (fun k q h => by simp at h)⟩⟩ rfl rfl hl.1 rfl (lv_room (Nat.le_of_ble_eq_true rfl)) dB_clean_81 ⟨Nat.zero_le _, Nat.zero_le _⟩)) (fun r_9 er_9 => ?_)
              replace er_9 := er_9.trans ((nxt_nI cf_lt).trans (congrArg nI (cf_s q k)))
              subst er_9
              refine lv_istore_n (lv' := [(3, .int (nI (cf q (k + 1)))), (0, .ref h), (1, .int x), (2, .int (nI (Y k).2)), (4, .int (nI k))]) hx hb dB_clean_84 rfl hl (by decide) rfl (fun ls hl => ?_)
              refine lv_iinc (v := ((nI k) + 1)) (lv' := [(4, .int ((nI k) + 1)), (3, .int (nI (cf q (k + 1)))), (0, .ref h), (1, .int x), (2, .int (nI (Y k).2))]) hx hb dB_clean_85 hl (k := 4) rfl rfl (by decide) rfl (fun ls hl => ?_)
              refine lv_goto (tgt := 31) hx hb dB_clean_88 (by decide) ?_
              have e : Y (k + 1) = Y k := by rw [hY, hY]; exact clG_no (by rw [← hY]; exact fun h => tk_b1 c_8 (of_decide_eq_true h).2)
              have e2 : (Y (k + 1)).2 = (Y k).2 := by rw [e]
              exact ih (n - 1) (k + 1) _ _ _ (by omega) ⟨by omega, by omega, (by rw [e]; exact hP), (dw_D hDw), hS, lv_sub hl [2, 3, 4, 1, 0] (by rw [e2, ← nI_1 k]; rfl)⟩
            · have hdk := c_5
              have hpk := tk_b0 c_8
              refine lv_aload_n hx hb dB_clean_67 rfl (lv_at hl 0 rfl) ?_
              refine lv_aload_n hx hb dB_clean_68 rfl (lv_at hl 0 rfl) ?_
              refine va_get (D := (dC, dI)) (ci := 3) (v := .ref fa) (C := RB) (T := TB) (N := 4) hx hb hts (inC inB) hown hK hP 0 rfl rfl 2 (by decide) (hq _ wi_116) (fun _ h9 => h9) rfl dB_clean_69 ?_
              refine lv_iload_n hx hb dB_clean_72 rfl (lv_at hl 3 rfl) ?_
              refine tk_aald (n := (cf q k)) (y := fr (cf q k)) hx hb hK hP 4 1 rfl rfl rfl cf_lt (by decide) rfl dB_clean_73 ?_
              have hFc := tk_freeW hD hS hA
              refine va_callv (va_runV (As := [.ref (fr (cf q k))]) (rest := []) ⟨hx, hb, hml, hown, hts⟩ (c_B_writePageOf_ok l dC dI ka _ h dr db lg fa fr fb pg pn us ((Y k).1.1) ((Y k).1.2.1) ((Y k).1.2.2.1) ((Y k).1.2.2.2.1) ((Y k).1.2.2.2.2.1) rd ((Y k).1.2.2.2.2.2.1) ((Y k).1.2.2.2.2.2.2) (nI q) (cf q k) (pgN (cf q k)) cf_lt (hpN _ cf_lt ((hDI k _ cf_lt).1 hdk)).1 (hpN _ cf_lt ((hDI k _ cf_lt).1 hdk)).2 (hDI k _ cf_lt).2 (hok k (by omega) hlt (decide_eq_true ⟨hdk, hpk⟩))) (cwV 1 hts (tw_V wi_357 wi_359 wi_6 wi_24 wi_360) rfl rfl rfl (by decide +kernel) ⟨Nat.le_of_ble_eq_true rfl, Nat.le_of_ble_eq_true rfl⟩) ⟨fun a U g mk q => ⟨q.1, q.2.1, tk_E.call q.2.2.1, q.2.2.2⟩, va_recv hK hP (ci := 3) (q0 := 0) rfl rfl, fun U hU hW => ⟨rfl, by rw [hU], tk_E.warm hW hE, by rw [hU]; exact hP, hD.weaken (fun _ _ _ _ => trivial)⟩⟩ rfl rfl hl.1 rfl (lv_room (Nat.le_of_ble_eq_true rfl)) dB_clean_74 ⟨Nat.zero_le _, Nat.zero_le _⟩) hS (fun q _ h => hFc q h) hFc (fun u_10 t H1 locs ht hvm hw hB hz1 hk1 hS => ?_)
              have hB : va_P (dC, dI) clB (dw h dr db lg fa fr fb ka pg pn us (upd ((Y k).1.1) (cf q k) 0) (va_up ((Y k).1.2.1) (cf q k) (psB (((Y k).1.2.1) (cf q k)) (tb2 (((Y k).1.2.1) (cf q k)) 0 + 1))) (wrD ((Y k).1.2.2.1) ((va_up ((Y k).1.2.1) (cf q k) (psB (((Y k).1.2.1) (cf q k)) (tb2 (((Y k).1.2.1) (cf q k)) 0 + 1))) (cf q k)) (pgN (cf q k)) 8) (lfA ((Y k).1.2.2.2.1) 8) ((Y k).1.2.2.2.2.1 + nI 8) rd (if (Y k).1.2.2.2.2.2.1 < (plB (((Y k).1.2.1) (cf q k))) then (plB (((Y k).1.2.1) (cf q k))) else (Y k).1.2.2.2.2.2.1) (if (Y k).1.2.2.2.2.2.1 < (plB (((Y k).1.2.1) (cf q k))) then (Y k).1.2.2.2.2.2.2 + 1 else (Y k).1.2.2.2.2.2.2) (nI q)) H1 := by rw [← ht]; exact hB
              obtain ⟨hP, hD⟩ := (⟨hB, dw_D hDw⟩ : va_P (dC, dI) clB (dw h dr db lg fa fr fb ka pg pn us (upd ((Y k).1.1) (cf q k) 0) (va_up ((Y k).1.2.1) (cf q k) (psB (((Y k).1.2.1) (cf q k)) (tb2 (((Y k).1.2.1) (cf q k)) 0 + 1))) (wrD ((Y k).1.2.2.1) ((va_up ((Y k).1.2.1) (cf q k) (psB (((Y k).1.2.1) (cf q k)) (tb2 (((Y k).1.2.1) (cf q k)) 0 + 1))) (cf q k)) (pgN (cf q k)) 8) (lfA ((Y k).1.2.2.2.1) 8) ((Y k).1.2.2.2.2.1 + nI 8) rd (if (Y k).1.2.2.2.2.2.1 < (plB (((Y k).1.2.1) (cf q k))) then (plB (((Y k).1.2.1) (cf q k))) else (Y k).1.2.2.2.2.2.1) (if (Y k).1.2.2.2.2.2.1 < (plB (((Y k).1.2.1) (cf q k))) then (Y k).1.2.2.2.2.2.2 + 1 else (Y k).1.2.2.2.2.2.2) (nI q)) H1 ∧ va_D A (dw h dr db lg fa fr fb ka pg pn us (upd ((Y k).1.1) (cf q k) 0) (va_up ((Y k).1.2.1) (cf q k) (psB (((Y k).1.2.1) (cf q k)) (tb2 (((Y k).1.2.1) (cf q k)) 0 + 1))) (wrD ((Y k).1.2.2.1) ((va_up ((Y k).1.2.1) (cf q k) (psB (((Y k).1.2.1) (cf q k)) (tb2 (((Y k).1.2.1) (cf q k)) 0 + 1))) (cf q k)) (pgN (cf q k)) 8) (lfA ((Y k).1.2.2.2.1) 8) ((Y k).1.2.2.2.2.1 + nI 8) rd (if (Y k).1.2.2.2.2.2.1 < (plB (((Y k).1.2.1) (cf q k))) then (plB (((Y k).1.2.1) (cf q k))) else (Y k).1.2.2.2.2.2.1) (if (Y k).1.2.2.2.2.2.1 < (plB (((Y k).1.2.1) (cf q k))) then (Y k).1.2.2.2.2.2.2 + 1 else (Y k).1.2.2.2.2.2.2) (nI q)))
              generalize H1 = H at hP hS ⊢
              have hP : va_P (dC, dI) clB (dw h dr db lg fa fr fb ka pg pn us (upd ((Y k).1.1) (cf q k) 0) (va_up ((Y k).1.2.1) (cf q k) (psB (((Y k).1.2.1) (cf q k)) (tb2 (((Y k).1.2.1) (cf q k)) 0 + 1))) (wrD ((Y k).1.2.2.1) ((va_up ((Y k).1.2.1) (cf q k) (psB (((Y k).1.2.1) (cf q k)) (tb2 (((Y k).1.2.1) (cf q k)) 0 + 1))) (cf q k)) (pgN (cf q k)) 8) (lfA ((Y k).1.2.2.2.1) 8) ((Y k).1.2.2.2.2.1 + nI 8) rd (if (Y k).1.2.2.2.2.2.1 < (plB (((Y k).1.2.1) (cf q k))) then (plB (((Y k).1.2.1) (cf q k))) else (Y k).1.2.2.2.2.2.1) (if (Y k).1.2.2.2.2.2.1 < (plB (((Y k).1.2.1) (cf q k))) then (Y k).1.2.2.2.2.2.2 + 1 else (Y k).1.2.2.2.2.2.2) (nI q)) H := hP
              have hD : va_D A (dw h dr db lg fa fr fb ka pg pn us (upd ((Y k).1.1) (cf q k) 0) (va_up ((Y k).1.2.1) (cf q k) (psB (((Y k).1.2.1) (cf q k)) (tb2 (((Y k).1.2.1) (cf q k)) 0 + 1))) (wrD ((Y k).1.2.2.1) ((va_up ((Y k).1.2.1) (cf q k) (psB (((Y k).1.2.1) (cf q k)) (tb2 (((Y k).1.2.1) (cf q k)) 0 + 1))) (cf q k)) (pgN (cf q k)) 8) (lfA ((Y k).1.2.2.2.1) 8) ((Y k).1.2.2.2.2.1 + nI 8) rd (if (Y k).1.2.2.2.2.2.1 < (plB (((Y k).1.2.1) (cf q k))) then (plB (((Y k).1.2.1) (cf q k))) else (Y k).1.2.2.2.2.2.1) (if (Y k).1.2.2.2.2.2.1 < (plB (((Y k).1.2.1) (cf q k))) then (Y k).1.2.2.2.2.2.2 + 1 else (Y k).1.2.2.2.2.2.2) (nI q)) := dw_D hDw
              refine lv_iinc (v := ((nI (Y k).2) + 1)) (lv' := [(2, .int ((nI (Y k).2) + 1)), (0, .ref h), (1, .int x), (3, .int (nI (cf q k))), (4, .int (nI k))]) hx hb dB_clean_77 hl (k := 2) rfl rfl (by decide) rfl (fun ls hl => ?_)
              refine lv_iload_n hx hb dB_clean_80 rfl (lv_at hl 3 rfl) ?_
              refine vp_callSi (va_Run.run (va_runS (As := [.int (nI (cf q k))]) (rest := []) ⟨hx, hb, hml, hown, hts⟩ (c_B_frameBehind l dC dI ka (nI (cf q k))) (cwS 1 hts (tw_S wi_354 wi_355 wi_24 wi_356) rfl rfl rfl (by decide +kernel) ⟨Nat.le_of_ble_eq_true rfl, Nat.le_of_ble_eq_true rfl⟩) ⟨fun a U g mk q => ⟨q.1, tk_E.call q.2.1, q.2.2⟩, fun U hU hW => ⟨rfl, tk_E.warm hW hE, by rw [hU]; exact (fun k q h => by simp at h)⟩⟩ rfl rfl hl.1 rfl (lv_room (Nat.le_of_ble_eq_true rfl)) dB_clean_81 ⟨Nat.zero_le _, Nat.zero_le _⟩)) (fun r_12 er_12 => ?_)
              replace er_12 := er_12.trans ((nxt_nI cf_lt).trans (congrArg nI (cf_s q k)))
              subst er_12
              refine lv_istore_n (lv' := [(3, .int (nI (cf q (k + 1)))), (2, .int ((nI (Y k).2) + 1)), (0, .ref h), (1, .int x), (4, .int (nI k))]) hx hb dB_clean_84 rfl hl (by decide) rfl (fun ls hl => ?_)
              refine lv_iinc (v := ((nI k) + 1)) (lv' := [(4, .int ((nI k) + 1)), (3, .int (nI (cf q (k + 1)))), (2, .int ((nI (Y k).2) + 1)), (0, .ref h), (1, .int x)]) hx hb dB_clean_85 hl (k := 4) rfl rfl (by decide) rfl (fun ls hl => ?_)
              refine lv_goto (tgt := 31) hx hb dB_clean_88 (by decide) ?_
              have e : Y (k + 1) = (dwrt pgN (Y k).1 (cf q k), (Y k).2 + 1) := by rw [hY, hY]; exact clG_yes (by rw [← hY]; exact hlt) (by rw [← hY]; exact decide_eq_true ⟨hdk, hpk⟩)
              have e2 : (Y (k + 1)).2 = (Y k).2 + 1 := by rw [e]
              have qdi : (Y (k + 1)).1.1 = (upd ((Y k).1.1) (cf q k) 0) := by rw [e, dwrt_eq]
              have qbt : (Y (k + 1)).1.2.1 = (va_up ((Y k).1.2.1) (cf q k) (psB (((Y k).1.2.1) (cf q k)) (tb2 (((Y k).1.2.1) (cf q k)) 0 + 1))) := by rw [e, dwrt_eq]
              have qdk : (Y (k + 1)).1.2.2.1 = (wrD ((Y k).1.2.2.1) ((va_up ((Y k).1.2.1) (cf q k) (psB (((Y k).1.2.1) (cf q k)) (tb2 (((Y k).1.2.1) (cf q k)) 0 + 1))) (cf q k)) (pgN (cf q k)) 8) := by rw [e, dwrt_eq]
              have qlf : (Y (k + 1)).1.2.2.2.1 = (lfA ((Y k).1.2.2.2.1) 8) := by rw [e, dwrt_eq]
              have qwn : (Y (k + 1)).1.2.2.2.2.1 = ((Y k).1.2.2.2.2.1 + nI 8) := by rw [e, dwrt_eq]
              have qen : (Y (k + 1)).1.2.2.2.2.2.1 = (if (Y k).1.2.2.2.2.2.1 < (plB (((Y k).1.2.1) (cf q k))) then (plB (((Y k).1.2.1) (cf q k))) else (Y k).1.2.2.2.2.2.1) := by rw [e, dwrt_eq]
              have qfl : (Y (k + 1)).1.2.2.2.2.2.2 = (if (Y k).1.2.2.2.2.2.1 < (plB (((Y k).1.2.1) (cf q k))) then (Y k).1.2.2.2.2.2.2 + 1 else (Y k).1.2.2.2.2.2.2) := by rw [e, dwrt_eq]
              exact ih (n - 1) (k + 1) _ _ _ (by omega) ⟨by omega, by omega, (by rw [qdi, qbt, qdk, qlf, qwn, qen, qfl]; exact hP), (dw_D hDw), hS, lv_sub hl [3, 4, 2, 1, 0] (by rw [e2, ← nI_1 k, ← nI_1 (Y k).2]; rfl)⟩
    · exact absurd (by rw [ex]; exact nI_le (b := 12) h12 (by decide)) c_2
