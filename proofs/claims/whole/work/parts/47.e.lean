set_option maxHeartbeats 4000000 in
set_option maxRecDepth 100000 in
theorem c_B_sweep_cut (l : Launch) (hst : l.stackTraces = false) (dC : Nat → ClassId) (dI : Nat → Nat → Nat) (ka : Nat → ClassId) (sa : Nat → Nat) (sz : Nat) (h dr db lg fa : Nat) (fr fb : Nat → Nat) (pg pn us di : Nat → Int32) (bt : Nat → Nat → Int32) (dk : Nat → Int32) (lf wn rd en fl hd : Int32) (pc mm : Nat) (pgN fo : Nat → Nat) (Y : Nat → DS × Nat) (hfo : foR pg di pgN fo) (hF : ∀ f, f < 12 → sb_Fit (bt f)) (hY : ∀ p, Y p = swG actS (dwrt pgN) fo (di, bt, dk, lf, wn, en, fl) p) (hok : ∀ p, p < pc → fo p < 12 → actS (Y p).1 (fo p) = true → lfOK (Y p).1.2.2.2.1) (hpc : pc < 192) (hfc : fo pc < 12) (hac : actS (Y pc).1 (fo pc) = true) (hm8 : mm < 8) (hnz : ∀ z, z < mm → ¬ lfA (Y pc).1.2.2.2.1 z = 0) (h0 : lfA (Y pc).1.2.2.2.1 mm = 0) : vx_Met l yB_sweep wB_sweep ({ frames := 7, cells := 1, slots := 6, locals := 106 }) (va_Pc [.ref h] (fun U => U.heap.size = sz ∧ tk_E dC dI ka U ∧ tk_X sa U ∧ tk_Z (va_A (dw h dr db lg fa fr fb ka pg pn us di bt dk lf wn rd en fl hd) sz) U U.heap ∧ va_P (dC, dI) clB (dw h dr db lg fa fr fb ka pg pn us di bt dk lf wn rd en fl hd) U.heap ∧ va_D (fun _ => True) (dw h dr db lg fa fr fb ka pg pn us di bt dk lf wn rd en fl hd))) (va_Qi (fun (_ : Int32) (_ : Unit) => False) (fun _ _ => True) (va_A (dw h dr db lg fa fr fb ka pg pn us di bt dk lf wn rd en fl hd) sz)) (vx_X (fun _ : Unit => True) (fun E _ t => E = xUOE ∧ va_P (dC, dI) clB (dw h dr db lg fa fr fb ka (dropF (-1) pg 12) (dropF 0 pn 12) (dropF 0 us 12) (dropF 0 ((Y pc).1.1) 12) (va_up ((Y pc).1.2.1) (fo pc) (psB (((Y pc).1.2.1) (fo pc)) (tb2 (((Y pc).1.2.1) (fo pc)) 0 + 1))) (wrD ((Y pc).1.2.2.1) ((va_up ((Y pc).1.2.1) (fo pc) (psB (((Y pc).1.2.1) (fo pc)) (tb2 (((Y pc).1.2.1) (fo pc)) 0 + 1))) (fo pc)) pc mm) (-1) ((Y pc).1.2.2.2.2.1 + nI mm) rd (if (Y pc).1.2.2.2.2.2.1 < (plB (((Y pc).1.2.1) (fo pc))) then (plB (((Y pc).1.2.1) (fo pc))) else (Y pc).1.2.2.2.2.2.1) (if (Y pc).1.2.2.2.2.2.1 < (plB (((Y pc).1.2.1) (fo pc))) then (Y pc).1.2.2.2.2.2.2 + 1 else (Y pc).1.2.2.2.2.2.2) 0) t.heap) (va_A (dw h dr db lg fa fr fb ka pg pn us di bt dk lf wn rd en fl hd) sz)) 1 6 (va_A (dw h dr db lg fa fr fb ka pg pn us di bt dk lf wn rd en fl hd) sz) := by
  refine vx_ofW (cc := cB_sweep) (maxL := 3) (ret := (some .int)) (by decide) rfl ?_
  intro p e s m args below meth c s₁ B hml hT hv
  obtain ⟨rfl, hsz, hE, hXx, hZz, hP, hD0⟩ := hv
  have hx := B.exec
  have hb := B.bytes
  have hr := B.returns
  have hts := atoms_spec (ws := wB_sweep) B.pre
  have hq : ∀ w ∈ lwg, w.before _ s = true := fun w h => hts w (List.mem_cons_of_mem _ h)
  have hown : s.vm.findClass RB = some m.cls := findClass_of_methodNamed B.named
  have hlocks := B.notSynchronized
  have hK := hE.1
  have hN := hE.2
  subst hsz
  have hD := hD0.self (sz := s.heap.size)
  generalize hAe : va_A (dw h dr db lg fa fr fb ka pg pn us di bt dk lf wn rd en fl hd) s.heap.size = A at hD hZz ⊢
  have hA : ∀ q : Nat, s.heap.size ≤ q → A q := fun q h => by rw [← hAe]; exact Or.inr h
  have hS : va_S A s.heap s.heap [] := va_S.rf
  have hDw := hD
  have hP : va_P (dC, dI) clB (dw h dr db lg fa fr fb ka pg pn us di bt dk lf wn rd en fl hd) s.heap := hP
  have hl := lv_entry ([.ref h]) (n := 3) (Nat.le_of_ble_eq_true rfl)
  rw [lg_entry_eq]
  generalize (lg_sl ([.ref h]) ++ List.replicate (3 - (lg_sl ([.ref h])).length) Slot.unset).toArray = ls at hl ⊢
  have hl : lv_has ls 3 [(0, .ref h)] := hl
  refine lv_iconst (v := 0) hx hb dB_sweep_0 (by decide) ?_
  refine lv_istore_n (lv' := [(1, .int 0), (0, .ref h)]) hx hb dB_sweep_1 rfl hl (by decide) rfl (fun ls hl => ?_)
  refine lv_aload_n hx hb dB_sweep_2 rfl (lv_at hl 1 rfl) ?_
  refine vp_callSi (va_Run.run (va_runV (As := []) (rest := []) ⟨hx, hb, hml, hown, hts⟩ (c_B_dirtyFrameOfLowestPage l dC dI ka h dr db lg fa fr fb pg pn us di bt dk lf wn rd en fl hd ) (cwV 0 hts (tw_V wi_444 wi_446 wi_9 wi_24 wi_447) rfl rfl rfl (by decide +kernel) ⟨Nat.le_of_ble_eq_true rfl, Nat.le_of_ble_eq_true rfl⟩) ⟨fun a U g mk q => ⟨q.1, tk_E.call q.2.1, q.2.2⟩, va_recv hK hP (ci := 3) (q0 := 0) rfl rfl, fun U hU hW => ⟨rfl, tk_E.warm hW hE, by rw [hU]; exact hP⟩⟩ rfl rfl hl.1 rfl (lv_room (Nat.le_of_ble_eq_true rfl)) dB_sweep_3 ⟨Nat.zero_le _, Nat.zero_le _⟩)) (fun r_1 er_1 => ?_)
  refine lv_istore_n (lv' := [(2, .int r_1), (1, .int 0), (0, .ref h)]) hx hb dB_sweep_6 rfl hl (by decide) rfl (fun ls hl => ?_)
  have hDI : ∀ p, dsI di (Y p).1 := fun p => by rw [hY]; exact sw_dsI (X := (di, bt, dk, lf, wn, en, fl)) hF p
  have hY0 : Y 0 = ((di, bt, dk, lf, wn, en, fl), 0) := hY 0
  refine tk_loop 7 (fun (n : Nat) (y : Nat × Int32) H locs ls => (y.1 ≤ pc) ∧ (n = pc - y.1) ∧ (dlR pg (Y y.1).1.1 12 y.2) ∧ va_P (dC, dI) clB (dw h dr db lg fa fr fb ka pg pn us ((Y y.1).1.1) ((Y y.1).1.2.1) ((Y y.1).1.2.2.1) ((Y y.1).1.2.2.2.1) ((Y y.1).1.2.2.2.2.1) rd ((Y y.1).1.2.2.2.2.2.1) ((Y y.1).1.2.2.2.2.2.2) hd) H ∧ va_D A (dw h dr db lg fa fr fb ka pg pn us ((Y y.1).1.1) ((Y y.1).1.2.1) ((Y y.1).1.2.2.1) ((Y y.1).1.2.2.2.1) ((Y y.1).1.2.2.2.2.1) rd ((Y y.1).1.2.2.2.2.2.1) ((Y y.1).1.2.2.2.2.2.2) hd) ∧ va_S A s.heap H locs ∧ lv_has ls 3 [(0, .ref h), (1, .int (nI (Y y.1).2)), (2, .int (y.2))]) ?_ pc (0, r_1) ⟨Nat.zero_le _, rfl, (by rw [hY0]; exact er_1), (by rw [hY0]; exact hP), (dw_D hDw), hS, lv_sub hl [2, 1, 0] (by rw [hY0]; rfl)⟩
  skip
  intro n y H locs ls hI ih
  obtain ⟨hi, hn, hdl, hP, hD, hS, hl⟩ := hI
  have hdc : ¬ (Y y.1).1.1 (fo pc) = 0 := by have h9 : ¬ (Y pc).1.1 (fo pc) = 0 := of_decide_eq_true hac; rw [hY] at h9 ⊢; exact sw_dec (j := pc - y.1) (by rw [show y.1 + (pc - y.1) = pc by omega]; exact h9)
  refine lv_iload_n hx hb dB_sweep_7 rfl (lv_at hl 2 rfl) ?_
  refine lv_iconst (v := (-1)) hx hb dB_sweep_8 (by decide) ?_
  refine lv_icmp_eq (tgt := 39) hx hb dB_sweep_9 (by decide) (fun c_2 => ?_) (fun c_2 => ?_)
  · exact absurd c_2 (fun e9 => by rcases hdl with h9 | ⟨i, hi9, h9, -⟩; exact hdc (h9.2 _ hfc); exact absurd (e9 ▸ h9) (fun e => absurd (e ▸ nI_pos (n := i) (by omega)) (by decide)))
  · obtain ⟨i2, hi2, er, hd2, hm2, -⟩ := hdl.resolve_left (fun h => c_2 h.1)
    have hdY := hd2
    have hmY := hm2
    rw [hY] at hdY hmY
    have hg2 := sw_ge hfo y.1 i2 hi2 hdY
    have hat : Y (pgN i2) = Y y.1 := by rw [hY, hY]; exact sw_at hfo hi2 hdY hmY
    have hnx : Y (pgN i2 + 1) = (dwrt pgN (Y y.1).1 i2, (Y y.1).2 + 1) := by rw [hY, hY]; exact sw_next hfo hi2 hdY hmY
    have e2 : (Y (pgN i2 + 1)).2 = (Y y.1).2 + 1 := by rw [hnx]
    have hfi := (hfo.2 i2 hi2 hg2.2).2.2
    have hpg2 := (hfo.2 i2 hi2 hg2.2).2.1
    have hw12 : (Y y.1).2 < 12 := by have h9 := sw_cnt (pgN := pgN) (fo := fo) (X := (di, bt, dk, lf, wn, en, fl)) y.1; rw [← hY] at h9; have := cntD_pos hd2 hi2; omega
    have hple : pgN i2 ≤ pc := by have h9 := hm2 _ hfc hdc; rw [(hfo.2 i2 hi2 hg2.2).1, hfo.1 pc hpc hfc] at h9; exact (nI_leI (by omega) (by omega)).mp h9
    refine lv_iload_n hx hb dB_sweep_12 rfl (lv_at hl 1 rfl) ?_
    refine lv_bipush (v := 12) hx hb dB_sweep_13 (by decide) ?_
    refine lv_icmp_ge (tgt := 39) hx hb dB_sweep_15 (by decide) (fun c_3 => ?_) (fun c_3 => ?_)
    · exact absurd ((nI_leI (a := 12) (b := (Y y.1).2) (by decide) (by omega)).mp c_3) (by omega)
    · rcases Nat.lt_or_ge (pgN i2) pc with hkk | hkk
      · have hpl := hkk
        refine lv_aload_n hx hb dB_sweep_18 rfl (lv_at hl 0 rfl) ?_
        refine lv_aload_n hx hb dB_sweep_19 rfl (lv_at hl 0 rfl) ?_
        refine va_get (D := (dC, dI)) (ci := 3) (v := .ref fa) (C := RB) (T := TB) (N := 4) hx hb hts (inC inB) hown hK hP 0 rfl rfl 2 (by decide) (hq _ wi_116) (fun _ h9 => h9) rfl dB_sweep_20 ?_
        refine lv_iload_n hx hb dB_sweep_23 rfl (lv_at hl 2 rfl) ?_
        refine tk_aald (n := i2) (y := fr i2) hx hb hK hP 4 1 rfl rfl er hi2 (by decide) rfl dB_sweep_24 ?_
        have hFc := tk_freeW hD hS hA
        refine va_callv (va_runV (As := [.ref (fr i2)]) (rest := []) ⟨hx, hb, hml, hown, hts⟩ (c_B_writePageOf_ok l dC dI ka _ h dr db lg fa fr fb pg pn us ((Y y.1).1.1) ((Y y.1).1.2.1) ((Y y.1).1.2.2.1) ((Y y.1).1.2.2.2.1) ((Y y.1).1.2.2.2.2.1) rd ((Y y.1).1.2.2.2.2.2.1) ((Y y.1).1.2.2.2.2.2.2) hd i2 (pgN i2) hi2 (hfo.2 i2 hi2 hg2.2).1 (hfo.2 i2 hi2 hg2.2).2.1 (hDI y.1 i2 hi2).2 (hat ▸ hok (pgN i2) hpl (by rw [hfi]; exact hi2) (by rw [hfi, hat]; exact decide_eq_true hd2))) (cwV 1 hts (tw_V wi_357 wi_359 wi_6 wi_24 wi_360) rfl rfl rfl (by decide +kernel) ⟨Nat.le_of_ble_eq_true rfl, Nat.le_of_ble_eq_true rfl⟩) ⟨fun a U g mk q => ⟨q.1, q.2.1, tk_E.call q.2.2.1, q.2.2.2⟩, va_recv hK hP (ci := 3) (q0 := 0) rfl rfl, fun U hU hW => ⟨rfl, by rw [hU], tk_E.warm hW hE, by rw [hU]; exact hP, hD.weaken (fun _ _ _ _ => trivial)⟩⟩ rfl rfl hl.1 rfl (lv_room (Nat.le_of_ble_eq_true rfl)) dB_sweep_25 ⟨Nat.zero_le _, Nat.zero_le _⟩) hS (fun q _ h => hFc q h) hFc (fun u_4 t H1 locs ht hvm hw hB hz1 hk1 hS => ?_)
        have hB : va_P (dC, dI) clB (dw h dr db lg fa fr fb ka pg pn us (upd ((Y y.1).1.1) i2 0) (va_up ((Y y.1).1.2.1) i2 (psB (((Y y.1).1.2.1) i2) (tb2 (((Y y.1).1.2.1) i2) 0 + 1))) (wrD ((Y y.1).1.2.2.1) ((va_up ((Y y.1).1.2.1) i2 (psB (((Y y.1).1.2.1) i2) (tb2 (((Y y.1).1.2.1) i2) 0 + 1))) i2) (pgN i2) 8) (lfA ((Y y.1).1.2.2.2.1) 8) ((Y y.1).1.2.2.2.2.1 + nI 8) rd (if (Y y.1).1.2.2.2.2.2.1 < (plB (((Y y.1).1.2.1) i2)) then (plB (((Y y.1).1.2.1) i2)) else (Y y.1).1.2.2.2.2.2.1) (if (Y y.1).1.2.2.2.2.2.1 < (plB (((Y y.1).1.2.1) i2)) then (Y y.1).1.2.2.2.2.2.2 + 1 else (Y y.1).1.2.2.2.2.2.2) hd) H1 := by rw [← ht]; exact hB
        obtain ⟨hP, hD⟩ := (⟨hB, dw_D hDw⟩ : va_P (dC, dI) clB (dw h dr db lg fa fr fb ka pg pn us (upd ((Y y.1).1.1) i2 0) (va_up ((Y y.1).1.2.1) i2 (psB (((Y y.1).1.2.1) i2) (tb2 (((Y y.1).1.2.1) i2) 0 + 1))) (wrD ((Y y.1).1.2.2.1) ((va_up ((Y y.1).1.2.1) i2 (psB (((Y y.1).1.2.1) i2) (tb2 (((Y y.1).1.2.1) i2) 0 + 1))) i2) (pgN i2) 8) (lfA ((Y y.1).1.2.2.2.1) 8) ((Y y.1).1.2.2.2.2.1 + nI 8) rd (if (Y y.1).1.2.2.2.2.2.1 < (plB (((Y y.1).1.2.1) i2)) then (plB (((Y y.1).1.2.1) i2)) else (Y y.1).1.2.2.2.2.2.1) (if (Y y.1).1.2.2.2.2.2.1 < (plB (((Y y.1).1.2.1) i2)) then (Y y.1).1.2.2.2.2.2.2 + 1 else (Y y.1).1.2.2.2.2.2.2) hd) H1 ∧ va_D A (dw h dr db lg fa fr fb ka pg pn us (upd ((Y y.1).1.1) i2 0) (va_up ((Y y.1).1.2.1) i2 (psB (((Y y.1).1.2.1) i2) (tb2 (((Y y.1).1.2.1) i2) 0 + 1))) (wrD ((Y y.1).1.2.2.1) ((va_up ((Y y.1).1.2.1) i2 (psB (((Y y.1).1.2.1) i2) (tb2 (((Y y.1).1.2.1) i2) 0 + 1))) i2) (pgN i2) 8) (lfA ((Y y.1).1.2.2.2.1) 8) ((Y y.1).1.2.2.2.2.1 + nI 8) rd (if (Y y.1).1.2.2.2.2.2.1 < (plB (((Y y.1).1.2.1) i2)) then (plB (((Y y.1).1.2.1) i2)) else (Y y.1).1.2.2.2.2.2.1) (if (Y y.1).1.2.2.2.2.2.1 < (plB (((Y y.1).1.2.1) i2)) then (Y y.1).1.2.2.2.2.2.2 + 1 else (Y y.1).1.2.2.2.2.2.2) hd))
        generalize H1 = H at hP hS ⊢
        have hP : va_P (dC, dI) clB (dw h dr db lg fa fr fb ka pg pn us (upd ((Y y.1).1.1) i2 0) (va_up ((Y y.1).1.2.1) i2 (psB (((Y y.1).1.2.1) i2) (tb2 (((Y y.1).1.2.1) i2) 0 + 1))) (wrD ((Y y.1).1.2.2.1) ((va_up ((Y y.1).1.2.1) i2 (psB (((Y y.1).1.2.1) i2) (tb2 (((Y y.1).1.2.1) i2) 0 + 1))) i2) (pgN i2) 8) (lfA ((Y y.1).1.2.2.2.1) 8) ((Y y.1).1.2.2.2.2.1 + nI 8) rd (if (Y y.1).1.2.2.2.2.2.1 < (plB (((Y y.1).1.2.1) i2)) then (plB (((Y y.1).1.2.1) i2)) else (Y y.1).1.2.2.2.2.2.1) (if (Y y.1).1.2.2.2.2.2.1 < (plB (((Y y.1).1.2.1) i2)) then (Y y.1).1.2.2.2.2.2.2 + 1 else (Y y.1).1.2.2.2.2.2.2) hd) H := hP
        have hD : va_D A (dw h dr db lg fa fr fb ka pg pn us (upd ((Y y.1).1.1) i2 0) (va_up ((Y y.1).1.2.1) i2 (psB (((Y y.1).1.2.1) i2) (tb2 (((Y y.1).1.2.1) i2) 0 + 1))) (wrD ((Y y.1).1.2.2.1) ((va_up ((Y y.1).1.2.1) i2 (psB (((Y y.1).1.2.1) i2) (tb2 (((Y y.1).1.2.1) i2) 0 + 1))) i2) (pgN i2) 8) (lfA ((Y y.1).1.2.2.2.1) 8) ((Y y.1).1.2.2.2.2.1 + nI 8) rd (if (Y y.1).1.2.2.2.2.2.1 < (plB (((Y y.1).1.2.1) i2)) then (plB (((Y y.1).1.2.1) i2)) else (Y y.1).1.2.2.2.2.2.1) (if (Y y.1).1.2.2.2.2.2.1 < (plB (((Y y.1).1.2.1) i2)) then (Y y.1).1.2.2.2.2.2.2 + 1 else (Y y.1).1.2.2.2.2.2.2) hd) := dw_D hDw
        refine lv_iinc (v := ((nI (Y y.1).2) + 1)) (lv' := [(1, .int ((nI (Y y.1).2) + 1)), (0, .ref h), (2, .int (y.2))]) hx hb dB_sweep_28 hl (k := 1) rfl rfl (by decide) rfl (fun ls hl => ?_)
        refine lv_aload_n hx hb dB_sweep_31 rfl (lv_at hl 1 rfl) ?_
        refine vp_callSi (va_Run.run (va_runV (As := []) (rest := []) ⟨hx, hb, hml, hown, hts⟩ (c_B_dirtyFrameOfLowestPage l dC dI ka h dr db lg fa fr fb pg pn us (upd ((Y y.1).1.1) i2 0) (va_up ((Y y.1).1.2.1) i2 (psB (((Y y.1).1.2.1) i2) (tb2 (((Y y.1).1.2.1) i2) 0 + 1))) (wrD ((Y y.1).1.2.2.1) ((va_up ((Y y.1).1.2.1) i2 (psB (((Y y.1).1.2.1) i2) (tb2 (((Y y.1).1.2.1) i2) 0 + 1))) i2) (pgN i2) 8) (lfA ((Y y.1).1.2.2.2.1) 8) ((Y y.1).1.2.2.2.2.1 + nI 8) rd (if (Y y.1).1.2.2.2.2.2.1 < (plB (((Y y.1).1.2.1) i2)) then (plB (((Y y.1).1.2.1) i2)) else (Y y.1).1.2.2.2.2.2.1) (if (Y y.1).1.2.2.2.2.2.1 < (plB (((Y y.1).1.2.1) i2)) then (Y y.1).1.2.2.2.2.2.2 + 1 else (Y y.1).1.2.2.2.2.2.2) hd ) (cwV 0 hts (tw_V wi_444 wi_446 wi_9 wi_24 wi_447) rfl rfl rfl (by decide +kernel) ⟨Nat.le_of_ble_eq_true rfl, Nat.le_of_ble_eq_true rfl⟩) ⟨fun a U g mk q => ⟨q.1, tk_E.call q.2.1, q.2.2⟩, va_recv hK hP (ci := 3) (q0 := 0) rfl rfl, fun U hU hW => ⟨rfl, tk_E.warm hW hE, by rw [hU]; exact hP⟩⟩ rfl rfl hl.1 rfl (lv_room (Nat.le_of_ble_eq_true rfl)) dB_sweep_32 ⟨Nat.zero_le _, Nat.zero_le _⟩)) (fun r_6 er_6 => ?_)
        refine lv_istore_n (lv' := [(2, .int r_6), (1, .int ((nI (Y y.1).2) + 1)), (0, .ref h)]) hx hb dB_sweep_35 rfl hl (by decide) rfl (fun ls hl => ?_)
        refine lv_goto (tgt := 7) hx hb dB_sweep_36 (by decide) ?_
        have qdi : (Y (pgN i2 + 1)).1.1 = (upd ((Y y.1).1.1) i2 0) := by rw [hnx, dwrt_eq]
        have qbt : (Y (pgN i2 + 1)).1.2.1 = (va_up ((Y y.1).1.2.1) i2 (psB (((Y y.1).1.2.1) i2) (tb2 (((Y y.1).1.2.1) i2) 0 + 1))) := by rw [hnx, dwrt_eq]
        have qdk : (Y (pgN i2 + 1)).1.2.2.1 = (wrD ((Y y.1).1.2.2.1) ((va_up ((Y y.1).1.2.1) i2 (psB (((Y y.1).1.2.1) i2) (tb2 (((Y y.1).1.2.1) i2) 0 + 1))) i2) (pgN i2) 8) := by rw [hnx, dwrt_eq]
        have qlf : (Y (pgN i2 + 1)).1.2.2.2.1 = (lfA ((Y y.1).1.2.2.2.1) 8) := by rw [hnx, dwrt_eq]
        have qwn : (Y (pgN i2 + 1)).1.2.2.2.2.1 = ((Y y.1).1.2.2.2.2.1 + nI 8) := by rw [hnx, dwrt_eq]
        have qen : (Y (pgN i2 + 1)).1.2.2.2.2.2.1 = (if (Y y.1).1.2.2.2.2.2.1 < (plB (((Y y.1).1.2.1) i2)) then (plB (((Y y.1).1.2.1) i2)) else (Y y.1).1.2.2.2.2.2.1) := by rw [hnx, dwrt_eq]
        have qfl : (Y (pgN i2 + 1)).1.2.2.2.2.2.2 = (if (Y y.1).1.2.2.2.2.2.1 < (plB (((Y y.1).1.2.1) i2)) then (Y y.1).1.2.2.2.2.2.2 + 1 else (Y y.1).1.2.2.2.2.2.2) := by rw [hnx, dwrt_eq]
        exact ih (pc - (pgN i2 + 1)) (pgN i2 + 1, r_6) _ _ _ (by omega) ⟨by omega, rfl, (by rw [qdi]; exact er_6), (by rw [qdi, qbt, qdk, qlf, qwn, qen, qfl]; exact hP), (dw_D hDw), hS, lv_sub hl [2, 1, 0] (by rw [e2, ← nI_1 (Y y.1).2]; rfl)⟩
      · have ek : pgN i2 = pc := by omega
        have efc : i2 = fo pc := by rw [← ek]; exact hfi.symm
        have hYk : Y pc = Y y.1 := by rw [← ek]; exact hat
        have hnzk : ∀ z, z < mm → ¬ lfA (Y y.1).1.2.2.2.1 z = 0 := by rw [← hYk]; exact hnz
        have h0k : lfA (Y y.1).1.2.2.2.1 mm = 0 := by rw [← hYk]; exact h0
        refine lv_aload_n hx hb dB_sweep_18 rfl (lv_at hl 0 rfl) ?_
        refine lv_aload_n hx hb dB_sweep_19 rfl (lv_at hl 0 rfl) ?_
        refine va_get (D := (dC, dI)) (ci := 3) (v := .ref fa) (C := RB) (T := TB) (N := 4) hx hb hts (inC inB) hown hK hP 0 rfl rfl 2 (by decide) (hq _ wi_116) (fun _ h9 => h9) rfl dB_sweep_20 ?_
        refine lv_iload_n hx hb dB_sweep_23 rfl (lv_at hl 2 rfl) ?_
        refine tk_aald (n := i2) (y := fr i2) hx hb hK hP 4 1 rfl rfl er hi2 (by decide) rfl dB_sweep_24 ?_
        have hFc := tk_freeW hD hS hA
        refine vx_callv (vx_runV (As := [.ref (fr i2)]) (rest := []) ⟨hx, hb, hml, hown, hts⟩ (c_B_writePageOf_cut l hst dC dI ka sa _ h dr db lg fa fr fb pg pn us ((Y y.1).1.1) ((Y y.1).1.2.1) ((Y y.1).1.2.2.1) ((Y y.1).1.2.2.2.1) ((Y y.1).1.2.2.2.2.1) rd ((Y y.1).1.2.2.2.2.2.1) ((Y y.1).1.2.2.2.2.2.2) hd i2 (pgN i2) mm hi2 (hfo.2 i2 hi2 hg2.2).1 (hfo.2 i2 hi2 hg2.2).2.1 (hDI y.1 i2 hi2).2 hm8 hnzk h0k) (cwV 1 hts (tw_V wi_357 wi_359 wi_6 wi_24 wi_360) rfl rfl rfl (by decide +kernel) ⟨Nat.le_of_ble_eq_true rfl, Nat.le_of_ble_eq_true rfl⟩) ⟨fun a U g mk q => ⟨q.1, q.2.1, tk_E.call q.2.2.1, tk_X.call q.2.2.2.1, tk_Z.call q.2.2.2.2.1, q.2.2.2.2.2⟩, va_recv hK hP (ci := 3) (q0 := 0) rfl rfl, fun U hU hW => ⟨rfl, by rw [hU], tk_E.warm hW hE, tk_X.warm hW hXx, tk_Z.at hZz hS hU hW hFc, by rw [hU]; exact hP, hD.weaken (fun _ _ _ _ => trivial)⟩⟩ rfl rfl hl.1 rfl (lv_room (Nat.le_of_ble_eq_true rfl)) dB_sweep_25 ⟨Nat.le_refl _, Nat.le_refl _⟩) hS (fun q _ h => hFc q h) hFc (fun q _ h => hFc q h) (fun E9 ce q9 u t H1 locs ht hvm hpx hBX hz1 hk1 hS hce hcv hcl => ?_) (fun u t H1 locs ht hvm hw hB hz1 hk1 hS => hw.elim)
        obtain ⟨rfl, hB⟩ := hBX
        exact vx_out (fun z hz => (hT z hz).elim) hlocks hce hcv hcl (fun t9 ht9 hvm9 => ⟨(), trivial, ⟨rfl, by show va_P _ _ _ t9.heap; rw [ht9.trans ht.symm]; exact (by rw [hYk, ← efc, ← ek]; exact hB)⟩, hS.F ht9⟩) hS.2.2 (Nat.le_of_ble_eq_true rfl) (Nat.le_of_ble_eq_true rfl)
