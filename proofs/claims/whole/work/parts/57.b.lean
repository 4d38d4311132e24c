set_option maxHeartbeats 4000000 in
set_option maxRecDepth 100000 in
theorem c_M_clean_ok (l : Launch) (dC : Nat → ClassId) (dI : Nat → Nat → Nat) (ka : Nat → ClassId) (sz : Nat) (h : Nat) (ad : Nat → Nat) (mth mnw : Int32) (mcp mcb mcv mcl mbl mpl mfm mto mfs mls mpg mpn mus mdi mst mbs : Nat → Int32) (men mfl mrd mwn mlf : Int32) (q : Nat) (x : Int32) (nn u : Nat) (bN pgN : Nat → Nat) (Y : Nat → MS × Nat) (ex : x = nI nn) (h1 : 1 ≤ nn) (h12 : nn ≤ 12) (hq0 : q < 12) (hpN : ∀ f, f < 12 → ¬ mpg f < 0 → mpg f = nI (pgN f) ∧ pgN f < 192 ∧ mbs f = nI (bN f) ∧ bN f ≤ u) (eu : mnw = nI u) (hu : u < 520) (hY : ∀ k, Y k = clG (acM mpg mpn) (mwrt mcp mcl mpl mpg bN pgN u) nn q (mfl, men, mst, mlf, mwn, mfm, mto, mfs, mls, mdi) k) (hok : ∀ k, k < 12 → (Y k).2 < nn → acM mpg mpn (Y k).1 (cf q k) = true → mlOK (Y k).1.2.2.2.1) : Met l yM_clean wM_clean ({ frames := 3, cells := 0, slots := 0, locals := 70 }) (va_Pc [.ref h, .int x] (fun U => U.heap.size = sz ∧ tk_E dC dI ka U ∧ va_P (dC, dI) clB (mw h ad ka mth mnw mcp mcb mcv mcl mbl mpl mfm mto mfs mls mpg mpn mus mdi mst mbs (nI q) men mfl mrd mwn mlf) U.heap ∧ va_D (fun _ => True) (mw h ad ka mth mnw mcp mcb mcv mcl mbl mpl mfm mto mfs mls mpg mpn mus mdi mst mbs (nI q) men mfl mrd mwn mlf))) (va_Qi (fun (r : Int32) (_ : Unit) => r = nI (Y 12).2) (fun _ t => va_P (dC, dI) clB (mw h ad ka 0 mnw mcp mcb mcv mcl mbl mpl ((Y 12).1.2.2.2.2.2.1) ((Y 12).1.2.2.2.2.2.2.1) ((Y 12).1.2.2.2.2.2.2.2.1) ((Y 12).1.2.2.2.2.2.2.2.2.1) mpg mpn mus ((Y 12).1.2.2.2.2.2.2.2.2.2) ((Y 12).1.2.2.1) mbs (nI q) ((Y 12).1.2.1) ((Y 12).1.1) mrd ((Y 12).1.2.2.2.2.1) ((Y 12).1.2.2.2.1)) t.heap) (va_A (mw h ad ka mth mnw mcp mcb mcv mcl mbl mpl mfm mto mfs mls mpg mpn mus mdi mst mbs (nI q) men mfl mrd mwn mlf) sz)) 0 0 (va_A (mw h ad ka mth mnw mcp mcb mcv mcl mbl mpl mfm mto mfs mls mpg mpn mus mdi mst mbs (nI q) men mfl mrd mwn mlf) sz) := by
  refine Met.ofW (cc := cM_clean) (maxL := 6) (ret := (some .int)) (by decide) rfl ?_
  intro p e s m args below meth c s₁ B hml hv
  obtain ⟨rfl, hsz, hE, hP, hD0⟩ := hv
  have hx := B.exec
  have hb := B.bytes
  have hr := B.returns
  have hts := atoms_spec (ws := wM_clean) B.pre
  have hq : ∀ w ∈ lwg, w.before _ s = true := fun w h => hts w (List.mem_cons_of_mem _ h)
  have hown : s.vm.findClass RM = some m.cls := findClass_of_methodNamed B.named
  have hlocks := B.notSynchronized
  have hK := hE.1
  have hN := hE.2
  subst hsz
  have hD := hD0.self (sz := s.heap.size)
  generalize hAe : va_A (mw h ad ka mth mnw mcp mcb mcv mcl mbl mpl mfm mto mfs mls mpg mpn mus mdi mst mbs (nI q) men mfl mrd mwn mlf) s.heap.size = A at hD ⊢
  have hA : ∀ q : Nat, s.heap.size ≤ q → A q := fun q h => by rw [← hAe]; exact Or.inr h
  have hS : va_S A s.heap s.heap [] := va_S.rf
  have hDw := hD
  have hP : va_P (dC, dI) clB (mw h ad ka mth mnw mcp mcb mcv mcl mbl mpl mfm mto mfs mls mpg mpn mus mdi mst mbs (nI q) men mfl mrd mwn mlf) s.heap := hP
  have hl := lv_entry ([.ref h, .int x]) (n := 6) (Nat.le_of_ble_eq_true rfl)
  rw [lg_entry_eq]
  generalize (lg_sl ([.ref h, .int x]) ++ List.replicate (6 - (lg_sl ([.ref h, .int x])).length) Slot.unset).toArray = ls at hl ⊢
  have hl : lv_has ls 6 [(0, .ref h), (1, .int x)] := hl
  refine lv_aload_n hx hb dM_clean_0 rfl (lv_at hl 0 rfl) ?_
  refine lv_iconst (v := 0) hx hb dM_clean_1 (by decide) ?_
  refine va_put (D := (dC, dI)) (ci := 4) (v := .int 0) (ty := .int) (C := RM) (T := TM) (N := 24) hx hb hts (inC inM) tyM tyM_ok nmM hown hK hP hD hS 0 rfl rfl 0 (by decide) (hq _ wi_466) (fun _ h9 => h9) rfl (by decide +kernel) rfl rfl (Nat.le_of_ble_eq_true rfl) dM_clean_2 (fun H locs hP hD hS => ?_)
  have hP : va_P (dC, dI) clB (mw h ad ka 0 mnw mcp mcb mcv mcl mbl mpl mfm mto mfs mls mpg mpn mus mdi mst mbs (nI q) men mfl mrd mwn mlf) H := hP
  have hD : va_D A (mw h ad ka 0 mnw mcp mcb mcv mcl mbl mpl mfm mto mfs mls mpg mpn mus mdi mst mbs (nI q) men mfl mrd mwn mlf) := mw_D hDw
  refine lv_iload_n hx hb dM_clean_5 rfl (lv_at hl 1 rfl) ?_
  refine lv_iconst (v := 1) hx hb dM_clean_6 (by decide) ?_
  refine lv_icmp_lt (tgt := 16) hx hb dM_clean_7 (by decide) (fun c_1 => ?_) (fun c_1 => ?_)
  · exact absurd c_1 (by rw [ex]; exact nI_nlt (b := 1) h1 (by omega))
  · refine lv_iload_n hx hb dM_clean_10 rfl (lv_at hl 1 rfl) ?_
    refine lv_bipush (v := 12) hx hb dM_clean_11 (by decide) ?_
    refine lv_icmp_le (tgt := 22) hx hb dM_clean_13 (by decide) (fun c_2 => ?_) (fun c_2 => ?_)
    · refine lv_iconst (v := 0) hx hb dM_clean_22 (by decide) ?_
      refine lv_istore_n (lv' := [(2, .int 0), (0, .ref h), (1, .int x)]) hx hb dM_clean_23 rfl hl (by decide) rfl (fun ls hl => ?_)
      refine lv_aload_n hx hb dM_clean_24 rfl (lv_at hl 1 rfl) ?_
      refine va_get (D := (dC, dI)) (ci := 4) (v := .int (nI q)) (C := RM) (T := TM) (N := 24) hx hb hts (inC inM) hown hK hP 0 rfl rfl 18 (by decide) (hq _ wi_484) (fun _ h9 => h9) rfl dM_clean_25 ?_
      refine lv_istore_n (lv' := [(3, .int (nI q)), (2, .int 0), (0, .ref h), (1, .int x)]) hx hb dM_clean_28 rfl hl (by decide) rfl (fun ls hl => ?_)
      refine lv_iconst (v := 0) hx hb dM_clean_29 (by decide) ?_
      refine lv_istore (lv' := [(4, .int 0), (3, .int (nI q)), (2, .int 0), (0, .ref h), (1, .int x)]) hx hb dM_clean_30 hl (by decide) rfl (fun ls hl => ?_)
      have hY0 : Y 0 = ((mfl, men, mst, mlf, mwn, mfm, mto, mfs, mls, mdi), 0) := hY 0
      refine tk_loop 32 (fun (n : Nat) (k : Nat) H locs ls => (k ≤ 12) ∧ (n = 12 - k) ∧ va_P (dC, dI) clB (mw h ad ka 0 mnw mcp mcb mcv mcl mbl mpl ((Y k).1.2.2.2.2.2.1) ((Y k).1.2.2.2.2.2.2.1) ((Y k).1.2.2.2.2.2.2.2.1) ((Y k).1.2.2.2.2.2.2.2.2.1) mpg mpn mus ((Y k).1.2.2.2.2.2.2.2.2.2) ((Y k).1.2.2.1) mbs (nI q) ((Y k).1.2.1) ((Y k).1.1) mrd ((Y k).1.2.2.2.2.1) ((Y k).1.2.2.2.1)) H ∧ va_D A (mw h ad ka 0 mnw mcp mcb mcv mcl mbl mpl ((Y k).1.2.2.2.2.2.1) ((Y k).1.2.2.2.2.2.2.1) ((Y k).1.2.2.2.2.2.2.2.1) ((Y k).1.2.2.2.2.2.2.2.2.1) mpg mpn mus ((Y k).1.2.2.2.2.2.2.2.2.2) ((Y k).1.2.2.1) mbs (nI q) ((Y k).1.2.1) ((Y k).1.1) mrd ((Y k).1.2.2.2.2.1) ((Y k).1.2.2.2.1)) ∧ va_S A s.heap H locs ∧ lv_has ls 6 [(0, .ref h), (1, .int x), (2, .int (nI (Y k).2)), (3, .int (nI q)), (4, .int (nI k))]) ?_ 12 0 ⟨Nat.zero_le _, rfl, (by rw [hY0]; exact hP), (mw_D hDw), hS, lv_sub hl [3, 4, 2, 1, 0] (by rw [hY0]; rfl)⟩
      skip
      intro n k H locs ls hI ih
      obtain ⟨hi, hn, hP, hD, hS, hl⟩ := hI
      have hle : (Y k).2 ≤ k := by rw [hY]; exact clG_le k
      refine lv_iload hx hb dM_clean_32 (lv_at hl 4 rfl) ?_
      refine lv_bipush (v := 12) hx hb dM_clean_34 (by decide) ?_
      refine lv_icmp_ge (tgt := 107) hx hb dM_clean_36 (by decide) (fun c_3 => ?_) (fun c_3 => ?_)
      · have hfin : Y 12 = Y k := by rw [show k = 12 by (have := (nI_leI (a := 12) (b := k) (by decide) (by omega)).mp c_3; omega)]
        refine lv_iload_n hx hb dM_clean_107 rfl (lv_at hl 2 rfl) ?_
        exact W.iret (v := (nI (Y k).2)) hx hb hr (fun t ht hW => ⟨⟨(nI (Y k).2), (), rfl, (by rw [hfin]), by show va_P _ _ _ t.heap; rw [ht]; exact (by rw [hfin]; exact hP)⟩, hS.F ht⟩) hS.2.2 dM_clean_108
      · refine lv_iload_n hx hb dM_clean_39 rfl (lv_at hl 2 rfl) ?_
        refine lv_iload_n hx hb dM_clean_40 rfl (lv_at hl 1 rfl) ?_
        refine lv_icmp_ge (tgt := 107) hx hb dM_clean_41 (by decide) (fun c_4 => ?_) (fun c_4 => ?_)
        · have hfin : Y 12 = Y k := by have h9 := clG_stop (act := acM mpg mpn) (wr := (mwrt mcp mcl mpl mpg bN pgN u)) (n := nn) (q := q) (X := (mfl, men, mst, mlf, mwn, mfm, mto, mfs, mls, mdi)) (k := k) (j := 12 - k) (by rw [← hY]; exact fun h => absurd c_4 (by rw [ex]; exact nI_ge h (by omega))); rw [show k + (12 - k) = 12 by omega, ← hY, ← hY] at h9; exact h9
          refine lv_iload_n hx hb dM_clean_107 rfl (lv_at hl 2 rfl) ?_
          exact W.iret (v := (nI (Y k).2)) hx hb hr (fun t ht hW => ⟨⟨(nI (Y k).2), (), rfl, (by rw [hfin]), by show va_P _ _ _ t.heap; rw [ht]; exact (by rw [hfin]; exact hP)⟩, hS.F ht⟩) hS.2.2 dM_clean_108
        · have hz : k < 12 := by have := mt (nI_leI (a := 12) (b := k) (by decide) (by omega)).mpr c_3; omega
          have hlt : (Y k).2 < nn := by rcases Nat.lt_or_ge (Y k).2 nn with g | g; exact g; exact absurd (by rw [ex]; exact nI_le g (by omega)) c_4
          refine lv_iload_n hx hb dM_clean_44 rfl (lv_at hl 3 rfl) ?_
          refine lv_iload hx hb dM_clean_45 (lv_at hl 4 rfl) ?_
          refine lv_iadd hx hb dM_clean_47 ?_
          refine lv_bipush (v := 12) hx hb dM_clean_48 (by decide) ?_
          refine lv_irem hx hb dM_clean_50 (by decide) ?_
          refine lv_istore (lv' := [(5, .int (((nI q) + (nI k)) - ((nI q) + (nI k)) / 12 * 12)), (0, .ref h), (1, .int x), (2, .int (nI (Y k).2)), (3, .int (nI q)), (4, .int (nI k))]) hx hb dM_clean_51 hl (by decide) rfl (fun ls hl => ?_)
          refine lv_aload_n hx hb dM_clean_53 rfl (lv_at hl 1 rfl) ?_
          refine va_get (D := (dC, dI)) (ci := 4) (v := .ref (ad 10)) (C := RM) (T := TM) (N := 24) hx hb hts (inC inM) hown hK hP 0 rfl rfl 12 (by decide) (hq _ wi_478) (fun _ h9 => h9) rfl dM_clean_54 ?_
          refine lv_iload hx hb dM_clean_57 (lv_at hl 0 rfl) ?_
          refine tk_iald (n := (cf q k)) hx hb hK hP 11 3 rfl rfl (cf_rem hq0 (by omega)) cf_lt (by decide) dM_clean_59 ?_
          refine lv_if_lt (tgt := 101) hx hb dM_clean_60 (by decide) (fun c_5 => ?_) (fun c_5 => ?_)
          · refine lv_iinc (v := ((nI k) + 1)) (lv' := [(4, .int ((nI k) + 1)), (5, .int (((nI q) + (nI k)) - ((nI q) + (nI k)) / 12 * 12)), (0, .ref h), (1, .int x), (2, .int (nI (Y k).2)), (3, .int (nI q))]) hx hb dM_clean_101 hl (k := 5) rfl rfl (by decide) rfl (fun ls hl => ?_)
            refine lv_goto (tgt := 32) hx hb dM_clean_104 (by decide) ?_
            have e : Y (k + 1) = Y k := by rw [hY, hY]; exact clG_no (by rw [← hY]; exact fun h9 => by have h := of_decide_eq_true h9; exact h.1 c_5)
            have e2 : (Y (k + 1)).2 = (Y k).2 := by rw [e]
            exact ih (n - 1) (k + 1) _ _ _ (by omega) ⟨by omega, by omega, (by rw [e]; exact hP), (mw_D hDw), hS, lv_sub hl [2, 3, 4, 5, 0] (by rw [e2, ← nI_1 k]; rfl)⟩
          · refine lv_aload_n hx hb dM_clean_63 rfl (lv_at hl 1 rfl) ?_
            refine va_get (D := (dC, dI)) (ci := 4) (v := .ref (ad 11)) (C := RM) (T := TM) (N := 24) hx hb hts (inC inM) hown hK hP 0 rfl rfl 13 (by decide) (hq _ wi_479) (fun _ h9 => h9) rfl dM_clean_64 ?_
            refine lv_iload hx hb dM_clean_67 (lv_at hl 0 rfl) ?_
            refine tk_iald (n := (cf q k)) hx hb hK hP 12 3 rfl rfl (cf_rem hq0 (by omega)) cf_lt (by decide) dM_clean_69 ?_
            refine lv_if_ne (tgt := 101) hx hb dM_clean_70 (by decide) (fun c_6 => ?_) (fun c_6 => ?_)
            · refine lv_iinc (v := ((nI k) + 1)) (lv' := [(4, .int ((nI k) + 1)), (5, .int (((nI q) + (nI k)) - ((nI q) + (nI k)) / 12 * 12)), (0, .ref h), (1, .int x), (2, .int (nI (Y k).2)), (3, .int (nI q))]) hx hb dM_clean_101 hl (k := 5) rfl rfl (by decide) rfl (fun ls hl => ?_)
              refine lv_goto (tgt := 32) hx hb dM_clean_104 (by decide) ?_
              have e : Y (k + 1) = Y k := by rw [hY, hY]; exact clG_no (by rw [← hY]; exact fun h9 => by have h := of_decide_eq_true h9; exact c_6 h.2.1)
              have e2 : (Y (k + 1)).2 = (Y k).2 := by rw [e]
              exact ih (n - 1) (k + 1) _ _ _ (by omega) ⟨by omega, by omega, (by rw [e]; exact hP), (mw_D hDw), hS, lv_sub hl [2, 3, 4, 5, 0] (by rw [e2, ← nI_1 k]; rfl)⟩
            · refine lv_aload_n hx hb dM_clean_73 rfl (lv_at hl 1 rfl) ?_
              refine va_get (D := (dC, dI)) (ci := 4) (v := .ref (ad 13)) (C := RM) (T := TM) (N := 24) hx hb hts (inC inM) hown hK hP 0 rfl rfl 15 (by decide) (hq _ wi_481) (fun _ h9 => h9) rfl dM_clean_74 ?_
              refine lv_iload hx hb dM_clean_77 (lv_at hl 0 rfl) ?_
              refine tk_zald (n := (cf q k)) hx hb hK hP 14 4 rfl rfl (cf_rem hq0 (by omega)) cf_lt (by decide) dM_clean_79 ?_
              refine lv_if_eq (tgt := 101) hx hb dM_clean_80 (by decide) (fun c_7 => ?_) (fun c_7 => ?_)
              · refine lv_iinc (v := ((nI k) + 1)) (lv' := [(4, .int ((nI k) + 1)), (5, .int (((nI q) + (nI k)) - ((nI q) + (nI k)) / 12 * 12)), (0, .ref h), (1, .int x), (2, .int (nI (Y k).2)), (3, .int (nI q))]) hx hb dM_clean_101 hl (k := 5) rfl rfl (by decide) rfl (fun ls hl => ?_)
                refine lv_goto (tgt := 32) hx hb dM_clean_104 (by decide) ?_
                have e : Y (k + 1) = Y k := by rw [hY, hY]; exact clG_no (by rw [← hY]; exact fun h9 => by have h := of_decide_eq_true h9; exact h.2.2 c_7)
                have e2 : (Y (k + 1)).2 = (Y k).2 := by rw [e]
                exact ih (n - 1) (k + 1) _ _ _ (by omega) ⟨by omega, by omega, (by rw [e]; exact hP), (mw_D hDw), hS, lv_sub hl [2, 3, 4, 5, 0] (by rw [e2, ← nI_1 k]; rfl)⟩
              · have hgk := c_5
                have hpk := c_6
                have hdk := c_7
                refine lv_aload_n hx hb dM_clean_83 rfl (lv_at hl 1 rfl) ?_
                refine lv_iload hx hb dM_clean_84 (lv_at hl 0 rfl) ?_
                have hFc := tk_freeW hD hS hA
                refine va_calli (va_runV (As := [.int (((nI q) + (nI k)) - ((nI q) + (nI k)) / 12 * 12)]) (rest := []) ⟨hx, hb, hml, hown, hts⟩ (c_M_write_ok l dC dI ka _ h ad 0 mnw mcp mcb mcv mcl mbl mpl ((Y k).1.2.2.2.2.2.1) ((Y k).1.2.2.2.2.2.2.1) ((Y k).1.2.2.2.2.2.2.2.1) ((Y k).1.2.2.2.2.2.2.2.2.1) mpg mpn mus ((Y k).1.2.2.2.2.2.2.2.2.2) ((Y k).1.2.2.1) mbs (nI q) ((Y k).1.2.1) ((Y k).1.1) mrd ((Y k).1.2.2.2.2.1) ((Y k).1.2.2.2.1) (((nI q) + (nI k)) - ((nI q) + (nI k)) / 12 * 12) (cf q k) (pgN (cf q k)) (bN (cf q k)) u (cf_rem hq0 (by omega)) cf_lt (hpN _ cf_lt hgk).1 (hpN _ cf_lt hgk).2.1 (hpN _ cf_lt hgk).2.2.1 eu (hpN _ cf_lt hgk).2.2.2 hu (hok k (by omega) hlt (decide_eq_true ⟨hgk, hpk, hdk⟩))) (cwV 1 hts (tw_V wi_600 wi_602 wi_19 wi_28 wi_603) rfl rfl rfl (by decide +kernel) ⟨Nat.le_of_ble_eq_true rfl, Nat.le_of_ble_eq_true rfl⟩) ⟨fun a U g mk q => ⟨q.1, q.2.1, tk_E.call q.2.2.1, q.2.2.2⟩, va_recv hK hP (ci := 4) (q0 := 0) rfl rfl, fun U hU hW => ⟨rfl, by rw [hU], tk_E.warm hW hE, by rw [hU]; exact hP, hD.weaken (fun _ _ _ _ => trivial)⟩⟩ rfl rfl hl.1 rfl (lv_room (Nat.le_of_ble_eq_true rfl)) dM_clean_86 ⟨Nat.zero_le _, Nat.zero_le _⟩) hS (fun q _ h => hFc q h) hFc (fun r_9 u_8 t H1 locs ht hvm hw hB hz1 hk1 hS => ?_)
                have hB : va_P (dC, dI) clB (mw h ad ka 0 mnw mcp mcb mcv mcl mbl mpl (secF ((Y k).1.2.2.2.2.2.1) (pgN (cf q k)) (nI (bN (cf q k))) 8) (secF ((Y k).1.2.2.2.2.2.2.1) (pgN (cf q k)) (nI u) 8) (fsF ((Y k).1.2.2.2.2.2.2.2.1) (pgN (cf q k)) (rs1 (((Y k).1.2.2.1) (cf q k))) 8) (lsF ((Y k).1.2.2.2.2.2.2.2.2.1) (pgN (cf q k)) (rs1 (((Y k).1.2.2.1) (cf q k))) 8) mpg mpn mus (upd ((Y k).1.2.2.2.2.2.2.2.2.2) (cf q k) 0) (upd ((Y k).1.2.2.1) (cf q k) (rs1 (((Y k).1.2.2.1) (cf q k)))) mbs (nI q) (if (plcF mcp mcl mpl (mpg (cf q k)) (bN (cf q k)) (u - (bN (cf q k)))) ≤ (Y k).1.2.1 then (Y k).1.2.1 else (plcF mcp mcl mpl (mpg (cf q k)) (bN (cf q k)) (u - (bN (cf q k))))) (if (plcF mcp mcl mpl (mpg (cf q k)) (bN (cf q k)) (u - (bN (cf q k)))) ≤ (Y k).1.2.1 then (Y k).1.1 else (Y k).1.1 + 1) mrd ((Y k).1.2.2.2.2.1 + nI 8) (mlA ((Y k).1.2.2.2.1) 8)) H1 := by rw [← ht]; exact hB
                obtain ⟨hP, hD⟩ := (⟨hB, mw_D hDw⟩ : va_P (dC, dI) clB (mw h ad ka 0 mnw mcp mcb mcv mcl mbl mpl (secF ((Y k).1.2.2.2.2.2.1) (pgN (cf q k)) (nI (bN (cf q k))) 8) (secF ((Y k).1.2.2.2.2.2.2.1) (pgN (cf q k)) (nI u) 8) (fsF ((Y k).1.2.2.2.2.2.2.2.1) (pgN (cf q k)) (rs1 (((Y k).1.2.2.1) (cf q k))) 8) (lsF ((Y k).1.2.2.2.2.2.2.2.2.1) (pgN (cf q k)) (rs1 (((Y k).1.2.2.1) (cf q k))) 8) mpg mpn mus (upd ((Y k).1.2.2.2.2.2.2.2.2.2) (cf q k) 0) (upd ((Y k).1.2.2.1) (cf q k) (rs1 (((Y k).1.2.2.1) (cf q k)))) mbs (nI q) (if (plcF mcp mcl mpl (mpg (cf q k)) (bN (cf q k)) (u - (bN (cf q k)))) ≤ (Y k).1.2.1 then (Y k).1.2.1 else (plcF mcp mcl mpl (mpg (cf q k)) (bN (cf q k)) (u - (bN (cf q k))))) (if (plcF mcp mcl mpl (mpg (cf q k)) (bN (cf q k)) (u - (bN (cf q k)))) ≤ (Y k).1.2.1 then (Y k).1.1 else (Y k).1.1 + 1) mrd ((Y k).1.2.2.2.2.1 + nI 8) (mlA ((Y k).1.2.2.2.1) 8)) H1 ∧ va_D A (mw h ad ka 0 mnw mcp mcb mcv mcl mbl mpl (secF ((Y k).1.2.2.2.2.2.1) (pgN (cf q k)) (nI (bN (cf q k))) 8) (secF ((Y k).1.2.2.2.2.2.2.1) (pgN (cf q k)) (nI u) 8) (fsF ((Y k).1.2.2.2.2.2.2.2.1) (pgN (cf q k)) (rs1 (((Y k).1.2.2.1) (cf q k))) 8) (lsF ((Y k).1.2.2.2.2.2.2.2.2.1) (pgN (cf q k)) (rs1 (((Y k).1.2.2.1) (cf q k))) 8) mpg mpn mus (upd ((Y k).1.2.2.2.2.2.2.2.2.2) (cf q k) 0) (upd ((Y k).1.2.2.1) (cf q k) (rs1 (((Y k).1.2.2.1) (cf q k)))) mbs (nI q) (if (plcF mcp mcl mpl (mpg (cf q k)) (bN (cf q k)) (u - (bN (cf q k)))) ≤ (Y k).1.2.1 then (Y k).1.2.1 else (plcF mcp mcl mpl (mpg (cf q k)) (bN (cf q k)) (u - (bN (cf q k))))) (if (plcF mcp mcl mpl (mpg (cf q k)) (bN (cf q k)) (u - (bN (cf q k)))) ≤ (Y k).1.2.1 then (Y k).1.1 else (Y k).1.1 + 1) mrd ((Y k).1.2.2.2.2.1 + nI 8) (mlA ((Y k).1.2.2.2.1) 8)))
                generalize H1 = H at hP hS ⊢
                have hP : va_P (dC, dI) clB (mw h ad ka 0 mnw mcp mcb mcv mcl mbl mpl (secF ((Y k).1.2.2.2.2.2.1) (pgN (cf q k)) (nI (bN (cf q k))) 8) (secF ((Y k).1.2.2.2.2.2.2.1) (pgN (cf q k)) (nI u) 8) (fsF ((Y k).1.2.2.2.2.2.2.2.1) (pgN (cf q k)) (rs1 (((Y k).1.2.2.1) (cf q k))) 8) (lsF ((Y k).1.2.2.2.2.2.2.2.2.1) (pgN (cf q k)) (rs1 (((Y k).1.2.2.1) (cf q k))) 8) mpg mpn mus (upd ((Y k).1.2.2.2.2.2.2.2.2.2) (cf q k) 0) (upd ((Y k).1.2.2.1) (cf q k) (rs1 (((Y k).1.2.2.1) (cf q k)))) mbs (nI q) (if (plcF mcp mcl mpl (mpg (cf q k)) (bN (cf q k)) (u - (bN (cf q k)))) ≤ (Y k).1.2.1 then (Y k).1.2.1 else (plcF mcp mcl mpl (mpg (cf q k)) (bN (cf q k)) (u - (bN (cf q k))))) (if (plcF mcp mcl mpl (mpg (cf q k)) (bN (cf q k)) (u - (bN (cf q k)))) ≤ (Y k).1.2.1 then (Y k).1.1 else (Y k).1.1 + 1) mrd ((Y k).1.2.2.2.2.1 + nI 8) (mlA ((Y k).1.2.2.2.1) 8)) H := hP
                have hD : va_D A (mw h ad ka 0 mnw mcp mcb mcv mcl mbl mpl (secF ((Y k).1.2.2.2.2.2.1) (pgN (cf q k)) (nI (bN (cf q k))) 8) (secF ((Y k).1.2.2.2.2.2.2.1) (pgN (cf q k)) (nI u) 8) (fsF ((Y k).1.2.2.2.2.2.2.2.1) (pgN (cf q k)) (rs1 (((Y k).1.2.2.1) (cf q k))) 8) (lsF ((Y k).1.2.2.2.2.2.2.2.2.1) (pgN (cf q k)) (rs1 (((Y k).1.2.2.1) (cf q k))) 8) mpg mpn mus (upd ((Y k).1.2.2.2.2.2.2.2.2.2) (cf q k) 0) (upd ((Y k).1.2.2.1) (cf q k) (rs1 (((Y k).1.2.2.1) (cf q k)))) mbs (nI q) (if (plcF mcp mcl mpl (mpg (cf q k)) (bN (cf q k)) (u - (bN (cf q k)))) ≤ (Y k).1.2.1 then (Y k).1.2.1 else (plcF mcp mcl mpl (mpg (cf q k)) (bN (cf q k)) (u - (bN (cf q k))))) (if (plcF mcp mcl mpl (mpg (cf q k)) (bN (cf q k)) (u - (bN (cf q k)))) ≤ (Y k).1.2.1 then (Y k).1.1 else (Y k).1.1 + 1) mrd ((Y k).1.2.2.2.2.1 + nI 8) (mlA ((Y k).1.2.2.2.1) 8)) := mw_D hDw
                subst hw
                refine lv_if_ne (tgt := 98) hx hb dM_clean_89 (by decide) (fun c_10 => ?_) (fun c_10 => ?_)
                · refine lv_iinc (v := ((nI (Y k).2) + 1)) (lv' := [(2, .int ((nI (Y k).2) + 1)), (5, .int (((nI q) + (nI k)) - ((nI q) + (nI k)) / 12 * 12)), (0, .ref h), (1, .int x), (3, .int (nI q)), (4, .int (nI k))]) hx hb dM_clean_98 hl (k := 3) rfl rfl (by decide) rfl (fun ls hl => ?_)
                  refine lv_iinc (v := ((nI k) + 1)) (lv' := [(4, .int ((nI k) + 1)), (2, .int ((nI (Y k).2) + 1)), (5, .int (((nI q) + (nI k)) - ((nI q) + (nI k)) / 12 * 12)), (0, .ref h), (1, .int x), (3, .int (nI q))]) hx hb dM_clean_101 hl (k := 5) rfl rfl (by decide) rfl (fun ls hl => ?_)
                  refine lv_goto (tgt := 32) hx hb dM_clean_104 (by decide) ?_
                  have e : Y (k + 1) = ((mwrt mcp mcl mpl mpg bN pgN u) (Y k).1 (cf q k), (Y k).2 + 1) := by rw [hY, hY]; exact clG_yes (by rw [← hY]; exact hlt) (by rw [← hY]; exact decide_eq_true ⟨hgk, hpk, hdk⟩)
                  have e2 : (Y (k + 1)).2 = (Y k).2 + 1 := by rw [e]
                  have qmfl : (Y (k + 1)).1.1 = (if (plcF mcp mcl mpl (mpg (cf q k)) (bN (cf q k)) (u - (bN (cf q k)))) ≤ (Y k).1.2.1 then (Y k).1.1 else (Y k).1.1 + 1) := by rw [e, mwrt_eq]
                  have qmen : (Y (k + 1)).1.2.1 = (if (plcF mcp mcl mpl (mpg (cf q k)) (bN (cf q k)) (u - (bN (cf q k)))) ≤ (Y k).1.2.1 then (Y k).1.2.1 else (plcF mcp mcl mpl (mpg (cf q k)) (bN (cf q k)) (u - (bN (cf q k))))) := by rw [e, mwrt_eq]
                  have qmst : (Y (k + 1)).1.2.2.1 = (upd ((Y k).1.2.2.1) (cf q k) (rs1 (((Y k).1.2.2.1) (cf q k)))) := by rw [e, mwrt_eq]
                  have qmlf : (Y (k + 1)).1.2.2.2.1 = (mlA ((Y k).1.2.2.2.1) 8) := by rw [e, mwrt_eq]
                  have qmwn : (Y (k + 1)).1.2.2.2.2.1 = ((Y k).1.2.2.2.2.1 + nI 8) := by rw [e, mwrt_eq]
                  have qmfm : (Y (k + 1)).1.2.2.2.2.2.1 = (secF ((Y k).1.2.2.2.2.2.1) (pgN (cf q k)) (nI (bN (cf q k))) 8) := by rw [e, mwrt_eq]
                  have qmto : (Y (k + 1)).1.2.2.2.2.2.2.1 = (secF ((Y k).1.2.2.2.2.2.2.1) (pgN (cf q k)) (nI u) 8) := by rw [e, mwrt_eq]
                  have qmfs : (Y (k + 1)).1.2.2.2.2.2.2.2.1 = (fsF ((Y k).1.2.2.2.2.2.2.2.1) (pgN (cf q k)) (rs1 (((Y k).1.2.2.1) (cf q k))) 8) := by rw [e, mwrt_eq]
                  have qmls : (Y (k + 1)).1.2.2.2.2.2.2.2.2.1 = (lsF ((Y k).1.2.2.2.2.2.2.2.2.1) (pgN (cf q k)) (rs1 (((Y k).1.2.2.1) (cf q k))) 8) := by rw [e, mwrt_eq]
                  have qmdi : (Y (k + 1)).1.2.2.2.2.2.2.2.2.2 = (upd ((Y k).1.2.2.2.2.2.2.2.2.2) (cf q k) 0) := by rw [e, mwrt_eq]
                  exact ih (n - 1) (k + 1) _ _ _ (by omega) ⟨by omega, by omega, (by rw [qmfl, qmen, qmst, qmlf, qmwn, qmfm, qmto, qmfs, qmls, qmdi]; exact hP), (mw_D hDw), hS, lv_sub hl [3, 4, 1, 5, 0] (by rw [e2, ← nI_1 k, ← nI_1 (Y k).2]; rfl)⟩
                · exact absurd c_10 (by decide)
    · exact absurd (by rw [ex]; exact nI_le (b := 12) h12 (by decide)) c_2
