/-- the first ones below z by g, the others by f -/
def stepF (f g : Nat → Int32) (z : Nat) : Nat → Int32 := fun e => if 1 ≤ e ∧ e < z then g e else f e
theorem stepF_1 (f g : Nat → Int32) : stepF f g 1 = f := by
  funext e
  exact if_neg (fun h => by omega)
theorem stepF_at (f g : Nat → Int32) (z : Nat) : stepF f g z z = f z := if_neg (fun h => by omega)
theorem stepF_s {f g : Nat → Int32} {z : Nat} {v : Int32} (h1 : 1 ≤ z) (hv : v = g z) : upd (stepF f g z) z v = stepF f g (z + 1) := by
  funext e
  by_cases h : e = z
  · subst h
    rw [pk_us, hv]
    exact (if_pos ⟨h1, by omega⟩).symm
  · rw [pk_un h]
    unfold stepF
    by_cases g2 : 1 ≤ e ∧ e < z
    · rw [if_pos g2, if_pos ⟨g2.1, by omega⟩]
    · rw [if_neg g2, if_neg (fun q => g2 ⟨q.1, by omega⟩)]
/-- whether a change is lost behind a cut: of its byte, of its place -/
def lsB (bl to : Nat → Int32) (cpN cbN : Nat → Nat) (e : Nat) : Int32 := if bl e = 0 then (if nI e ≤ to (8 * cpN e + cbN e / 64) then 0 else 1) else 1
def lsP (pl to : Nat → Int32) (cpN : Nat → Nat) (e : Nat) : Int32 := if pl e = 0 then (if nI e ≤ to (8 * cpN e) then 0 else 1) else 1
/-- z sectors of the page p have the word v -/
def secF (f : Nat → Int32) (p : Nat) (v : Int32) (z : Nat) : Nat → Int32 := fun j => if 8 * p ≤ j ∧ j < 8 * p + z then v else f j
theorem secF_0 (f : Nat → Int32) (p : Nat) (v : Int32) : secF f p v 0 = f := by
  funext e
  exact if_neg (fun h => by omega)
theorem secF_s (f : Nat → Int32) (p : Nat) (v : Int32) (z : Nat) : upd (secF f p v z) (8 * p + z) v = secF f p v (z + 1) := by
  funext e
  by_cases h : e = 8 * p + z
  · subst h
    rw [pk_us]
    exact (if_pos ⟨by omega, by omega⟩).symm
  · rw [pk_un h]
    unfold secF
    by_cases g2 : 8 * p ≤ e ∧ e < 8 * p + z
    · rw [if_pos g2, if_pos ⟨g2.1, by omega⟩]
    · rw [if_neg g2, if_neg (fun q => g2 ⟨q.1, by omega⟩)]
/-- the first stamp behind z sectors, the last one -/
def fsF (fs : Nat → Int32) (p : Nat) (v : Int32) (z : Nat) : Nat → Int32 := if z = 0 then fs else upd fs p v
def lsF (ls : Nat → Int32) (p : Nat) (v : Int32) (z : Nat) : Nat → Int32 := if z < 8 then ls else upd ls p v
theorem upd_upd (f : Nat → Int32) (p : Nat) (a b : Int32) : upd (upd f p a) p b = upd f p b := by
  funext e
  by_cases h : e = p <;> simp [upd, h]
theorem fsF_s {fs : Nat → Int32} {p z : Nat} {v v' : Int32} (hz : z < 8) (hv : v' = v) : upd (fsF fs p v z) p (if nI z = 0 then v' else fsF fs p v z p) = fsF fs p v (z + 1) := by
  subst hv
  rw [show fsF fs p v' (z + 1) = upd fs p v' from if_neg (by omega)]
  by_cases h : z = 0
  · subst h
    rw [if_pos nI_0, show fsF fs p v' 0 = fs from if_pos rfl]
  · rw [if_neg (nI_ne0 (by omega) (by omega)), upd_id]
    exact if_neg h
theorem lsF_s {ls : Nat → Int32} {p z : Nat} {v v' : Int32} (hz : z < 8) (hv : v' = v) : upd (lsF ls p v z) p (if nI z = 7 then v' else lsF ls p v z p) = lsF ls p v (z + 1) := by
  subst hv
  rw [show lsF ls p v' z = ls from if_pos hz]
  by_cases h : z = 7
  · subst h
    rw [if_pos (show nI 7 = 7 from rfl)]
    exact (if_neg (by omega)).symm
  · rw [if_neg (fun e => h ((nI_eq (by omega) (by decide)).mp (e.trans (show (7 : Int32) = nI 7 from rfl)))), upd_id]
    exact (if_pos (by omega)).symm
/-- the reference's charge behind z sectors -/
def mlA (lf : Int32) : Nat → Int32
  | 0 => lf
  | z + 1 => if mlA lf z ≤ 0 then mlA lf z else mlA lf z - 1
/-- a stamp raised -/
def rs1 (x : Int32) : Int32 := (x + 1) - (x + 1) / 65536 * 65536
theorem nI_s16 : ∀ {b : Nat}, b < 32768 → (nI b).toInt16.toInt32 = nI b := by
  intro b h
  apply Int32.toInt_inj.mp
  rw [Int16.toInt_toInt32, Int32.toInt_toInt16, nI_toInt (by omega)]
  exact Int.bmod_eq_of_le (by omega) (by omega)
theorem nxt_rem {h : Nat} (hh : h < 12) : (nI h + 1) - (nI h + 1) / 12 * 12 = nI (nxt h) := by
  rw [nI_1, show (12 : Int32) = nI 12 from rfl, pk_rem (by omega) (by decide) (by decide)]
  congr 1
  unfold nxt
  split <;> omega

set_option maxHeartbeats 4000000 in
set_option maxRecDepth 100000 in
theorem c_M_cut (l : Launch) (dC : Nat → ClassId) (dI : Nat → Nat → Nat) (ka : Nat → ClassId) (sz : Nat) (h : Nat) (ad : Nat → Nat) (mth mnw : Int32) (mcp mcb mcv mcl mbl mpl mfm mto mfs mls mpg mpn mus mdi mst mbs : Nat → Int32) (mhd men mfl mrd mwn mlf : Int32) (cpN cbN : Nat → Nat) (u : Nat) (eu : mnw = nI u) (hu : u < 520) (hch : ∀ e, 1 ≤ e → e ≤ u → mcp e = nI (cpN e) ∧ cpN e < 192 ∧ mcb e = nI (cbN e) ∧ cbN e < 512) : Met l yM_cut wM_cut ({ frames := 1, cells := 0, slots := 0, locals := 21 }) (va_Pc [.ref h] (fun U => U.heap.size = sz ∧ tk_E dC dI ka U ∧ va_P (dC, dI) clB (mw h ad ka mth mnw mcp mcb mcv mcl mbl mpl mfm mto mfs mls mpg mpn mus mdi mst mbs mhd men mfl mrd mwn mlf) U.heap ∧ va_D (fun _ => True) (mw h ad ka mth mnw mcp mcb mcv mcl mbl mpl mfm mto mfs mls mpg mpn mus mdi mst mbs mhd men mfl mrd mwn mlf))) (va_Qv (fun _ : Unit => True) (fun _ t => va_P (dC, dI) clB (mw h ad ka mth mnw mcp mcb mcv mcl (stepF mbl (lsB mbl mto cpN cbN) (u + 1)) (stepF mpl (lsP mpl mto cpN) (u + 1)) mfm mto mfs mls (dropF (-1) mpg 12) mpn mus mdi mst mbs 0 men mfl mrd mwn (-1)) t.heap) (va_A (mw h ad ka mth mnw mcp mcb mcv mcl mbl mpl mfm mto mfs mls mpg mpn mus mdi mst mbs mhd men mfl mrd mwn mlf) sz)) 0 0 (va_A (mw h ad ka mth mnw mcp mcb mcv mcl mbl mpl mfm mto mfs mls mpg mpn mus mdi mst mbs mhd men mfl mrd mwn mlf) sz) := by
  refine Met.ofW (cc := cM_cut) (maxL := 3) (ret := none) (by decide) rfl ?_
  intro p e s m args below meth c s₁ B hml hv
  obtain ⟨rfl, hsz, hE, hP, hD0⟩ := hv
  have hx := B.exec
  have hb := B.bytes
  have hr := B.returns
  have hts := atoms_spec (ws := wM_cut) B.pre
  have hq : ∀ w ∈ lwg, w.before _ s = true := fun w h => hts w (List.mem_cons_of_mem _ h)
  have hown : s.vm.findClass RM = some m.cls := findClass_of_methodNamed B.named
  have hlocks := B.notSynchronized
  have hK := hE.1
  have hN := hE.2
  subst hsz
  have hD := hD0.self (sz := s.heap.size)
  generalize hAe : va_A (mw h ad ka mth mnw mcp mcb mcv mcl mbl mpl mfm mto mfs mls mpg mpn mus mdi mst mbs mhd men mfl mrd mwn mlf) s.heap.size = A at hD ⊢
  have hA : ∀ q : Nat, s.heap.size ≤ q → A q := fun q h => by rw [← hAe]; exact Or.inr h
  have hS : va_S A s.heap s.heap [] := va_S.rf
  have hDw := hD
  have hP : va_P (dC, dI) clB (mw h ad ka mth mnw mcp mcb mcv mcl mbl mpl mfm mto mfs mls mpg mpn mus mdi mst mbs mhd men mfl mrd mwn mlf) s.heap := hP
  have hl := lv_entry ([.ref h]) (n := 3) (Nat.le_of_ble_eq_true rfl)
  rw [lg_entry_eq]
  generalize (lg_sl ([.ref h]) ++ List.replicate (3 - (lg_sl ([.ref h])).length) Slot.unset).toArray = ls at hl ⊢
  have hl : lv_has ls 3 [(0, .ref h)] := hl
  refine lv_iconst (v := 1) hx hb dM_cut_0 (by decide) ?_
  refine lv_istore_n (lv' := [(1, .int 1), (0, .ref h)]) hx hb dM_cut_1 rfl hl (by decide) rfl (fun ls hl => ?_)
  subst eu
  refine tk_loop 2 (fun (n : Nat) (z : Nat) H locs ls => (z ≤ u + 1) ∧ (n = u + 1 - z) ∧ (1 ≤ z) ∧ va_P (dC, dI) clB (mw h ad ka mth (nI u) mcp mcb mcv mcl (stepF mbl (lsB mbl mto cpN cbN) z) (stepF mpl (lsP mpl mto cpN) z) mfm mto mfs mls mpg mpn mus mdi mst mbs mhd men mfl mrd mwn mlf) H ∧ va_D A (mw h ad ka mth (nI u) mcp mcb mcv mcl (stepF mbl (lsB mbl mto cpN cbN) z) (stepF mpl (lsP mpl mto cpN) z) mfm mto mfs mls mpg mpn mus mdi mst mbs mhd men mfl mrd mwn mlf) ∧ va_S A s.heap H locs ∧ lv_has ls 3 [(0, .ref h), (1, .int (nI z))]) ?_ u 1 ⟨by omega, rfl, Nat.le_refl _, (by rw [stepF_1, stepF_1]; exact hP), (mw_D hDw), hS, lv_sub hl [1, 0] rfl⟩
  skip
  intro n z H locs ls hI ih
  obtain ⟨hi, hn, hz1, hP, hD, hS, hl⟩ := hI
  refine lv_iload_n hx hb dM_cut_2 rfl (lv_at hl 1 rfl) ?_
  refine lv_aload_n hx hb dM_cut_3 rfl (lv_at hl 0 rfl) ?_
  refine va_get (D := (dC, dI)) (ci := 4) (v := .int (nI u)) (C := RM) (T := TM) (N := 24) hx hb hts (inC inM) hown hK hP 0 rfl rfl 1 (by decide) (hq _ wi_467) (fun _ h9 => h9) rfl dM_cut_4 ?_
  refine lv_icmp_gt (tgt := 96) hx hb dM_cut_7 (by decide) (fun c_1 => ?_) (fun c_1 => ?_)
  · have hzu : z = u + 1 := by have := (nI_ltI (a := u) (b := z) (by omega) (by omega)).mp c_1; omega
    refine lv_aload_n hx hb dM_cut_96 rfl (lv_at hl 0 rfl) ?_
    have hFc := tk_freeW hD hS hA
    refine va_callv (va_runV (As := []) (rest := []) ⟨hx, hb, hml, hown, hts⟩ (c_M_empty l dC dI ka _ h ad mth (nI u) mcp mcb mcv mcl (stepF mbl (lsB mbl mto cpN cbN) z) (stepF mpl (lsP mpl mto cpN) z) mfm mto mfs mls mpg mpn mus mdi mst mbs mhd men mfl mrd mwn mlf ) (cwV 0 hts (tw_V wi_462 wi_464 wi_10 wi_28 wi_465) rfl rfl rfl (by decide +kernel) ⟨Nat.le_of_ble_eq_true rfl, Nat.le_of_ble_eq_true rfl⟩) ⟨fun a U g mk q => ⟨q.1, q.2.1, tk_E.call q.2.2.1, q.2.2.2⟩, va_recv hK hP (ci := 4) (q0 := 0) rfl rfl, fun U hU hW => ⟨rfl, by rw [hU], tk_E.warm hW hE, by rw [hU]; exact hP, hD.weaken (fun _ _ _ _ => trivial)⟩⟩ rfl rfl hl.1 rfl (lv_room (Nat.le_of_ble_eq_true rfl)) dM_cut_97 ⟨Nat.zero_le _, Nat.zero_le _⟩) hS (fun q _ h => hFc q h) hFc (fun u_2 t H1 locs ht hvm hw hB hz1 hk1 hS => ?_)
    have hB : va_P (dC, dI) clB (mw h ad ka mth (nI u) mcp mcb mcv mcl (stepF mbl (lsB mbl mto cpN cbN) z) (stepF mpl (lsP mpl mto cpN) z) mfm mto mfs mls (dropF (-1) mpg 12) mpn mus mdi mst mbs 0 men mfl mrd mwn (-1)) H1 := by rw [← ht]; exact hB
    obtain ⟨hP, hD⟩ := (⟨hB, mw_D hDw⟩ : va_P (dC, dI) clB (mw h ad ka mth (nI u) mcp mcb mcv mcl (stepF mbl (lsB mbl mto cpN cbN) z) (stepF mpl (lsP mpl mto cpN) z) mfm mto mfs mls (dropF (-1) mpg 12) mpn mus mdi mst mbs 0 men mfl mrd mwn (-1)) H1 ∧ va_D A (mw h ad ka mth (nI u) mcp mcb mcv mcl (stepF mbl (lsB mbl mto cpN cbN) z) (stepF mpl (lsP mpl mto cpN) z) mfm mto mfs mls (dropF (-1) mpg 12) mpn mus mdi mst mbs 0 men mfl mrd mwn (-1)))
    generalize H1 = H at hP hS ⊢
    have hP : va_P (dC, dI) clB (mw h ad ka mth (nI u) mcp mcb mcv mcl (stepF mbl (lsB mbl mto cpN cbN) z) (stepF mpl (lsP mpl mto cpN) z) mfm mto mfs mls (dropF (-1) mpg 12) mpn mus mdi mst mbs 0 men mfl mrd mwn (-1)) H := hP
    have hD : va_D A (mw h ad ka mth (nI u) mcp mcb mcv mcl (stepF mbl (lsB mbl mto cpN cbN) z) (stepF mpl (lsP mpl mto cpN) z) mfm mto mfs mls (dropF (-1) mpg 12) mpn mus mdi mst mbs 0 men mfl mrd mwn (-1)) := mw_D hDw
    exact W.vret hx hb hr (fun t ht hW => ⟨⟨(), rfl, trivial, by show va_P _ _ _ t.heap; rw [ht]; exact (hzu ▸ hP)⟩, hS.F ht⟩) hS.2.2 dM_cut_100
  · have hz : z ≤ u := by have := mt (nI_ltI (a := u) (b := z) (by omega) (by omega)).mpr c_1; omega
    have hcz := hch z hz1 hz
    refine lv_bipush (v := 8) hx hb dM_cut_10 (by decide) ?_
    refine lv_aload_n hx hb dM_cut_12 rfl (lv_at hl 0 rfl) ?_
    refine va_get (D := (dC, dI)) (ci := 4) (v := .ref (ad 0)) (C := RM) (T := TM) (N := 24) hx hb hts (inC inM) hown hK hP 0 rfl rfl 2 (by decide) (hq _ wi_468) (fun _ h9 => h9) rfl dM_cut_13 ?_
    refine lv_iload_n hx hb dM_cut_16 rfl (lv_at hl 1 rfl) ?_
    refine tk_sald (n := z) hx hb hK hP 1 2 rfl rfl rfl (by omega) (by decide) dM_cut_17 ?_
    refine lv_imul hx hb dM_cut_18 ?_
    refine lv_istore_n (lv' := [(2, .int (8 * (mcp z))), (0, .ref h), (1, .int (nI z))]) hx hb dM_cut_19 rfl hl (by decide) rfl (fun ls hl => ?_)
    refine lv_aload_n hx hb dM_cut_20 rfl (lv_at hl 1 rfl) ?_
    refine va_get (D := (dC, dI)) (ci := 4) (v := .ref (ad 4)) (C := RM) (T := TM) (N := 24) hx hb hts (inC inM) hown hK hP 0 rfl rfl 6 (by decide) (hq _ wi_472) (fun _ h9 => h9) rfl dM_cut_21 ?_
    refine lv_iload_n hx hb dM_cut_24 rfl (lv_at hl 2 rfl) ?_
    refine lv_aload_n hx hb dM_cut_25 rfl (lv_at hl 1 rfl) ?_
    refine va_get (D := (dC, dI)) (ci := 4) (v := .ref (ad 4)) (C := RM) (T := TM) (N := 24) hx hb hts (inC inM) hown hK hP 0 rfl rfl 6 (by decide) (hq _ wi_472) (fun _ h9 => h9) rfl dM_cut_26 ?_
    refine lv_iload_n hx hb dM_cut_29 rfl (lv_at hl 2 rfl) ?_
    refine tk_zald (n := z) hx hb hK hP 5 4 rfl rfl rfl (by omega) (by decide) dM_cut_30 ?_
    refine tk_sel (g1 := F0 m 59 ls (.int (if ((stepF mbl (lsB mbl mto cpN cbN) z) z) = 0 then (if (nI z) ≤ (mto (8 * cpN z + cbN z / 64)) then 0 else 1) else 1) :: [.int (nI z), .ref (ad 4)])) (fun hJ_4 => ?_) ?_
    · refine lv_if_ne (tgt := 54) hx hb dM_cut_31 (by decide) (fun c_5 => ?_) (fun c_5 => ?_)
      · refine lv_iconst (v := 1) hx hb dM_cut_54 (by decide) ?_
        refine lv_goto (tgt := 59) hx hb dM_cut_55 (by decide) ?_
        exact tk_selx (if_neg c_5) hJ_4
      · refine lv_iload_n hx hb dM_cut_34 rfl (lv_at hl 2 rfl) ?_
        refine lv_aload_n hx hb dM_cut_35 rfl (lv_at hl 1 rfl) ?_
        refine va_get (D := (dC, dI)) (ci := 4) (v := .ref (ad 7)) (C := RM) (T := TM) (N := 24) hx hb hts (inC inM) hown hK hP 0 rfl rfl 9 (by decide) (hq _ wi_475) (fun _ h9 => h9) rfl dM_cut_36 ?_
        refine lv_iload_n hx hb dM_cut_39 rfl (lv_at hl 0 rfl) ?_
        refine lv_aload_n hx hb dM_cut_40 rfl (lv_at hl 1 rfl) ?_
        refine va_get (D := (dC, dI)) (ci := 4) (v := .ref (ad 1)) (C := RM) (T := TM) (N := 24) hx hb hts (inC inM) hown hK hP 0 rfl rfl 3 (by decide) (hq _ wi_469) (fun _ h9 => h9) rfl dM_cut_41 ?_
        refine lv_iload_n hx hb dM_cut_44 rfl (lv_at hl 2 rfl) ?_
        refine tk_sald (n := z) hx hb hK hP 2 2 rfl rfl rfl (by omega) (by decide) dM_cut_45 ?_
        refine lv_bipush (v := 64) hx hb dM_cut_46 (by decide) ?_
        refine lv_idiv hx hb dM_cut_48 (by decide) ?_
        refine lv_iadd hx hb dM_cut_49 ?_
        refine tk_sald (n := (8 * cpN z + cbN z / 64)) hx hb hK hP 8 2 rfl rfl (by rw [hcz.1, hcz.2.2.1]; exact sec_ix (by omega)) (by omega) (by decide) dM_cut_50 ?_
        refine lv_icmp_le (tgt := 58) hx hb dM_cut_51 (by decide) (fun c_6 => ?_) (fun c_6 => ?_)
        · refine lv_iconst (v := 0) hx hb dM_cut_58 (by decide) ?_
          exact tk_selx ((if_pos c_5).trans (if_pos c_6)) hJ_4
        · refine lv_iconst (v := 1) hx hb dM_cut_54 (by decide) ?_
          refine lv_goto (tgt := 59) hx hb dM_cut_55 (by decide) ?_
          exact tk_selx ((if_pos c_5).trans (if_neg c_6)) hJ_4
    refine tk_zast (n := z) (v := (if ((stepF mbl (lsB mbl mto cpN cbN) z) z) = 0 then (if (nI z) ≤ (mto (8 * cpN z + cbN z / 64)) then 0 else 1) else 1)) hx hb hK hP hD hS 5 4 rfl rfl rfl (by omega) (by decide) (nar_01 (ite_01 (ite_01 (Or.inl rfl) (Or.inr rfl)) (Or.inr rfl))) dM_cut_59 (fun H locs hP hD hS => ?_)
    have hP : va_P (dC, dI) clB (mw h ad ka mth (nI u) mcp mcb mcv mcl (upd (stepF mbl (lsB mbl mto cpN cbN) z) z (if ((stepF mbl (lsB mbl mto cpN cbN) z) z) = 0 then (if (nI z) ≤ (mto (8 * cpN z + cbN z / 64)) then 0 else 1) else 1)) (stepF mpl (lsP mpl mto cpN) z) mfm mto mfs mls mpg mpn mus mdi mst mbs mhd men mfl mrd mwn mlf) H := hP
    have hD : va_D A (mw h ad ka mth (nI u) mcp mcb mcv mcl (upd (stepF mbl (lsB mbl mto cpN cbN) z) z (if ((stepF mbl (lsB mbl mto cpN cbN) z) z) = 0 then (if (nI z) ≤ (mto (8 * cpN z + cbN z / 64)) then 0 else 1) else 1)) (stepF mpl (lsP mpl mto cpN) z) mfm mto mfs mls mpg mpn mus mdi mst mbs mhd men mfl mrd mwn mlf) := mw_D hDw
    refine lv_aload_n hx hb dM_cut_60 rfl (lv_at hl 1 rfl) ?_
    refine va_get (D := (dC, dI)) (ci := 4) (v := .ref (ad 5)) (C := RM) (T := TM) (N := 24) hx hb hts (inC inM) hown hK hP 0 rfl rfl 7 (by decide) (hq _ wi_473) (fun _ h9 => h9) rfl dM_cut_61 ?_
    refine lv_iload_n hx hb dM_cut_64 rfl (lv_at hl 2 rfl) ?_
    refine lv_aload_n hx hb dM_cut_65 rfl (lv_at hl 1 rfl) ?_
    refine va_get (D := (dC, dI)) (ci := 4) (v := .ref (ad 5)) (C := RM) (T := TM) (N := 24) hx hb hts (inC inM) hown hK hP 0 rfl rfl 7 (by decide) (hq _ wi_473) (fun _ h9 => h9) rfl dM_cut_66 ?_
    refine lv_iload_n hx hb dM_cut_69 rfl (lv_at hl 2 rfl) ?_
    refine tk_zald (n := z) hx hb hK hP 6 4 rfl rfl rfl (by omega) (by decide) dM_cut_70 ?_
    refine tk_sel (g1 := F0 m 89 ls (.int (if ((stepF mpl (lsP mpl mto cpN) z) z) = 0 then (if (nI z) ≤ (mto (8 * cpN z)) then 0 else 1) else 1) :: [.int (nI z), .ref (ad 5)])) (fun hJ_7 => ?_) ?_
    · refine lv_if_ne (tgt := 84) hx hb dM_cut_71 (by decide) (fun c_8 => ?_) (fun c_8 => ?_)
      · refine lv_iconst (v := 1) hx hb dM_cut_84 (by decide) ?_
        refine lv_goto (tgt := 89) hx hb dM_cut_85 (by decide) ?_
        exact tk_selx (if_neg c_8) hJ_7
      · refine lv_iload_n hx hb dM_cut_74 rfl (lv_at hl 2 rfl) ?_
        refine lv_aload_n hx hb dM_cut_75 rfl (lv_at hl 1 rfl) ?_
        refine va_get (D := (dC, dI)) (ci := 4) (v := .ref (ad 7)) (C := RM) (T := TM) (N := 24) hx hb hts (inC inM) hown hK hP 0 rfl rfl 9 (by decide) (hq _ wi_475) (fun _ h9 => h9) rfl dM_cut_76 ?_
        refine lv_iload_n hx hb dM_cut_79 rfl (lv_at hl 0 rfl) ?_
        refine tk_sald (n := (8 * cpN z)) hx hb hK hP 8 2 rfl rfl (by rw [hcz.1]; exact sec_i0) (by omega) (by decide) dM_cut_80 ?_
        refine lv_icmp_le (tgt := 88) hx hb dM_cut_81 (by decide) (fun c_9 => ?_) (fun c_9 => ?_)
        · refine lv_iconst (v := 0) hx hb dM_cut_88 (by decide) ?_
          exact tk_selx ((if_pos c_8).trans (if_pos c_9)) hJ_7
        · refine lv_iconst (v := 1) hx hb dM_cut_84 (by decide) ?_
          refine lv_goto (tgt := 89) hx hb dM_cut_85 (by decide) ?_
          exact tk_selx ((if_pos c_8).trans (if_neg c_9)) hJ_7
    refine tk_zast (n := z) (v := (if ((stepF mpl (lsP mpl mto cpN) z) z) = 0 then (if (nI z) ≤ (mto (8 * cpN z)) then 0 else 1) else 1)) hx hb hK hP hD hS 6 4 rfl rfl rfl (by omega) (by decide) (nar_01 (ite_01 (ite_01 (Or.inl rfl) (Or.inr rfl)) (Or.inr rfl))) dM_cut_89 (fun H locs hP hD hS => ?_)
    have hP : va_P (dC, dI) clB (mw h ad ka mth (nI u) mcp mcb mcv mcl (upd (stepF mbl (lsB mbl mto cpN cbN) z) z (if ((stepF mbl (lsB mbl mto cpN cbN) z) z) = 0 then (if (nI z) ≤ (mto (8 * cpN z + cbN z / 64)) then 0 else 1) else 1)) (upd (stepF mpl (lsP mpl mto cpN) z) z (if ((stepF mpl (lsP mpl mto cpN) z) z) = 0 then (if (nI z) ≤ (mto (8 * cpN z)) then 0 else 1) else 1)) mfm mto mfs mls mpg mpn mus mdi mst mbs mhd men mfl mrd mwn mlf) H := hP
    have hD : va_D A (mw h ad ka mth (nI u) mcp mcb mcv mcl (upd (stepF mbl (lsB mbl mto cpN cbN) z) z (if ((stepF mbl (lsB mbl mto cpN cbN) z) z) = 0 then (if (nI z) ≤ (mto (8 * cpN z + cbN z / 64)) then 0 else 1) else 1)) (upd (stepF mpl (lsP mpl mto cpN) z) z (if ((stepF mpl (lsP mpl mto cpN) z) z) = 0 then (if (nI z) ≤ (mto (8 * cpN z)) then 0 else 1) else 1)) mfm mto mfs mls mpg mpn mus mdi mst mbs mhd men mfl mrd mwn mlf) := mw_D hDw
    refine lv_iinc (v := ((nI z) + 1)) (lv' := [(1, .int ((nI z) + 1)), (2, .int (8 * (mcp z))), (0, .ref h)]) hx hb dM_cut_90 hl (k := 2) rfl rfl (by decide) rfl (fun ls hl => ?_)
    refine lv_goto (tgt := 2) hx hb dM_cut_93 (by decide) ?_
    have eb9 : upd (stepF mbl (lsB mbl mto cpN cbN) z) z (if ((stepF mbl (lsB mbl mto cpN cbN) z) z) = 0 then (if (nI z) ≤ (mto (8 * cpN z + cbN z / 64)) then 0 else 1) else 1) = stepF mbl (lsB mbl mto cpN cbN) (z + 1) := stepF_s hz1 (by rw [stepF_at]; rfl)
    have ep9 : upd (stepF mpl (lsP mpl mto cpN) z) z (if ((stepF mpl (lsP mpl mto cpN) z) z) = 0 then (if (nI z) ≤ (mto (8 * cpN z)) then 0 else 1) else 1) = stepF mpl (lsP mpl mto cpN) (z + 1) := stepF_s hz1 (by rw [stepF_at]; rfl)
    exact ih (n - 1) (z + 1) _ _ _ (by omega) ⟨by omega, by omega, by omega, (by rw [← eb9, ← ep9]; exact hP), (mw_D hDw), hS, lv_sub hl [2, 0] (by rw [← nI_1 z]; rfl)⟩

set_option maxHeartbeats 4000000 in
set_option maxRecDepth 100000 in
theorem c_M_write_ok (l : Launch) (dC : Nat → ClassId) (dI : Nat → Nat → Nat) (ka : Nat → ClassId) (sz : Nat) (h : Nat) (ad : Nat → Nat) (mth mnw : Int32) (mcp mcb mcv mcl mbl mpl mfm mto mfs mls mpg mpn mus mdi mst mbs : Nat → Int32) (mhd men mfl mrd mwn mlf : Int32) (x : Int32) (i np b u : Nat) (ex : x = nI i) (hi0 : i < 12) (hpg : mpg i = nI np) (hnp : np < 192) (eb : mbs i = nI b) (eu : mnw = nI u) (hbu : b ≤ u) (hu : u < 520) (hok : ∀ z, z < 8 → ¬ mlA mlf z = 0) : Met l yM_write wM_write ({ frames := 2, cells := 0, slots := 0, locals := 46 }) (va_Pc [.ref h, .int x] (fun U => U.heap.size = sz ∧ tk_E dC dI ka U ∧ va_P (dC, dI) clB (mw h ad ka mth mnw mcp mcb mcv mcl mbl mpl mfm mto mfs mls mpg mpn mus mdi mst mbs mhd men mfl mrd mwn mlf) U.heap ∧ va_D (fun _ => True) (mw h ad ka mth mnw mcp mcb mcv mcl mbl mpl mfm mto mfs mls mpg mpn mus mdi mst mbs mhd men mfl mrd mwn mlf))) (va_Qi (fun (r : Int32) (_ : Unit) => r = 1) (fun _ t => va_P (dC, dI) clB (mw h ad ka mth mnw mcp mcb mcv mcl mbl mpl (secF mfm np (nI b) 8) (secF mto np (nI u) 8) (fsF mfs np (rs1 (mst i)) 8) (lsF mls np (rs1 (mst i)) 8) mpg mpn mus (upd mdi i 0) (upd mst i (rs1 (mst i))) mbs mhd (if (plcF mcp mcl mpl (mpg i) b (u - b)) ≤ men then men else (plcF mcp mcl mpl (mpg i) b (u - b))) (if (plcF mcp mcl mpl (mpg i) b (u - b)) ≤ men then mfl else mfl + 1) mrd (mwn + nI 8) (mlA mlf 8)) t.heap) (va_A (mw h ad ka mth mnw mcp mcb mcv mcl mbl mpl mfm mto mfs mls mpg mpn mus mdi mst mbs mhd men mfl mrd mwn mlf) sz)) 0 0 (va_A (mw h ad ka mth mnw mcp mcb mcv mcl mbl mpl mfm mto mfs mls mpg mpn mus mdi mst mbs mhd men mfl mrd mwn mlf) sz) := by
  refine Met.ofW (cc := cM_write) (maxL := 5) (ret := (some .boolean)) (by decide) rfl ?_
  intro p e s m args below meth c s₁ B hml hv
  obtain ⟨rfl, hsz, hE, hP, hD0⟩ := hv
  have hx := B.exec
  have hb := B.bytes
  have hr := B.returns
  have hts := atoms_spec (ws := wM_write) B.pre
  have hq : ∀ w ∈ lwg, w.before _ s = true := fun w h => hts w (List.mem_cons_of_mem _ h)
  have hown : s.vm.findClass RM = some m.cls := findClass_of_methodNamed B.named
  have hlocks := B.notSynchronized
  have hK := hE.1
  have hN := hE.2
  subst hsz
  have hD := hD0.self (sz := s.heap.size)
  generalize hAe : va_A (mw h ad ka mth mnw mcp mcb mcv mcl mbl mpl mfm mto mfs mls mpg mpn mus mdi mst mbs mhd men mfl mrd mwn mlf) s.heap.size = A at hD ⊢
  have hA : ∀ q : Nat, s.heap.size ≤ q → A q := fun q h => by rw [← hAe]; exact Or.inr h
  have hS : va_S A s.heap s.heap [] := va_S.rf
  have hDw := hD
  have hP : va_P (dC, dI) clB (mw h ad ka mth mnw mcp mcb mcv mcl mbl mpl mfm mto mfs mls mpg mpn mus mdi mst mbs mhd men mfl mrd mwn mlf) s.heap := hP
  have hl := lv_entry ([.ref h, .int x]) (n := 5) (Nat.le_of_ble_eq_true rfl)
  rw [lg_entry_eq]
  generalize (lg_sl ([.ref h, .int x]) ++ List.replicate (5 - (lg_sl ([.ref h, .int x])).length) Slot.unset).toArray = ls at hl ⊢
  have hl : lv_has ls 5 [(0, .ref h), (1, .int x)] := hl
  refine lv_aload_n hx hb dM_write_0 rfl (lv_at hl 0 rfl) ?_
  refine lv_iload_n hx hb dM_write_1 rfl (lv_at hl 1 rfl) ?_
  refine vp_callSi (va_Run.run (va_runV (As := [.int x]) (rest := []) ⟨hx, hb, hml, hown, hts⟩ (c_M_framePlace l dC dI ka h ad mth mnw mcp mcb mcv mcl mbl mpl mfm mto mfs mls mpg mpn mus mdi mst mbs mhd men mfl mrd mwn mlf x i b u ex hi0 eb eu hbu hu) (cwV 1 hts (tw_V wi_553 wi_555 wi_11 wi_28 wi_556) rfl rfl rfl (by decide +kernel) ⟨Nat.le_of_ble_eq_true rfl, Nat.le_of_ble_eq_true rfl⟩) ⟨fun a U g mk q => ⟨q.1, tk_E.call q.2.1, q.2.2⟩, va_recv hK hP (ci := 4) (q0 := 0) rfl rfl, fun U hU hW => ⟨rfl, tk_E.warm hW hE, by rw [hU]; exact hP⟩⟩ rfl rfl hl.1 rfl (lv_room (Nat.le_of_ble_eq_true rfl)) dM_write_2 ⟨Nat.zero_le _, Nat.zero_le _⟩)) (fun r_1 er_1 => ?_)
  subst er_1
  refine lv_istore_n (lv' := [(2, .int (plcF mcp mcl mpl (mpg i) b (u - b))), (0, .ref h), (1, .int x)]) hx hb dM_write_5 rfl hl (by decide) rfl (fun ls hl => ?_)
  refine lv_aload_n hx hb dM_write_6 rfl (lv_at hl 1 rfl) ?_
  refine va_get (D := (dC, dI)) (ci := 4) (v := .ref (ad 10)) (C := RM) (T := TM) (N := 24) hx hb hts (inC inM) hown hK hP 0 rfl rfl 12 (by decide) (hq _ wi_478) (fun _ h9 => h9) rfl dM_write_7 ?_
  refine lv_iload_n hx hb dM_write_10 rfl (lv_at hl 2 rfl) ?_
  refine tk_iald (n := i) hx hb hK hP 11 3 rfl rfl ex hi0 (by decide) dM_write_11 ?_
  refine lv_istore_n (lv' := [(3, .int (mpg i)), (2, .int (plcF mcp mcl mpl (mpg i) b (u - b))), (0, .ref h), (1, .int x)]) hx hb dM_write_12 rfl hl (by decide) rfl (fun ls hl => ?_)
  refine lv_aload_n hx hb dM_write_13 rfl (lv_at hl 2 rfl) ?_
  refine lv_iload_n hx hb dM_write_14 rfl (lv_at hl 1 rfl) ?_
  refine lv_aload_n hx hb dM_write_15 rfl (lv_at hl 2 rfl) ?_
  refine va_get (D := (dC, dI)) (ci := 4) (v := .int men) (C := RM) (T := TM) (N := 24) hx hb hts (inC inM) hown hK hP 0 rfl rfl 19 (by decide) (hq _ wi_485) (fun _ h9 => h9) rfl dM_write_16 ?_
  refine tk_sel (g1 := F0 m 35 ls (.int (if (plcF mcp mcl mpl (mpg i) b (u - b)) ≤ men then mfl else (mfl + 1)) :: [.ref h])) (fun hJ_2 => ?_) ?_
  · refine lv_icmp_le (tgt := 31) hx hb dM_write_19 (by decide) (fun c_3 => ?_) (fun c_3 => ?_)
    · refine lv_aload_n hx hb dM_write_31 rfl (lv_at hl 2 rfl) ?_
      refine va_get (D := (dC, dI)) (ci := 4) (v := .int mfl) (C := RM) (T := TM) (N := 24) hx hb hts (inC inM) hown hK hP 0 rfl rfl 20 (by decide) (hq _ wi_486) (fun _ h9 => h9) rfl dM_write_32 ?_
      exact tk_selx (if_pos c_3) hJ_2
    · refine lv_aload_n hx hb dM_write_22 rfl (lv_at hl 2 rfl) ?_
      refine va_get (D := (dC, dI)) (ci := 4) (v := .int mfl) (C := RM) (T := TM) (N := 24) hx hb hts (inC inM) hown hK hP 0 rfl rfl 20 (by decide) (hq _ wi_486) (fun _ h9 => h9) rfl dM_write_23 ?_
      refine lv_iconst (v := 1) hx hb dM_write_26 (by decide) ?_
      refine lv_iadd hx hb dM_write_27 ?_
      refine lv_goto (tgt := 35) hx hb dM_write_28 (by decide) ?_
      exact tk_selx (if_neg c_3) hJ_2
  refine va_put (D := (dC, dI)) (ci := 4) (v := .int (if (plcF mcp mcl mpl (mpg i) b (u - b)) ≤ men then mfl else (mfl + 1))) (ty := .int) (C := RM) (T := TM) (N := 24) hx hb hts (inC inM) tyM tyM_ok nmM hown hK hP hD hS 0 rfl rfl 20 (by decide) (hq _ wi_486) (fun _ h9 => h9) rfl (by decide +kernel) rfl rfl (Nat.le_of_ble_eq_true rfl) dM_write_35 (fun H locs hP hD hS => ?_)
  have hP : va_P (dC, dI) clB (mw h ad ka mth mnw mcp mcb mcv mcl mbl mpl mfm mto mfs mls mpg mpn mus mdi mst mbs mhd men (if (plcF mcp mcl mpl (mpg i) b (u - b)) ≤ men then mfl else (mfl + 1)) mrd mwn mlf) H := hP
  have hD : va_D A (mw h ad ka mth mnw mcp mcb mcv mcl mbl mpl mfm mto mfs mls mpg mpn mus mdi mst mbs mhd men (if (plcF mcp mcl mpl (mpg i) b (u - b)) ≤ men then mfl else (mfl + 1)) mrd mwn mlf) := mw_D hDw
  refine lv_aload_n hx hb dM_write_38 rfl (lv_at hl 2 rfl) ?_
  refine lv_iload_n hx hb dM_write_39 rfl (lv_at hl 1 rfl) ?_
  refine lv_aload_n hx hb dM_write_40 rfl (lv_at hl 2 rfl) ?_
  refine va_get (D := (dC, dI)) (ci := 4) (v := .int men) (C := RM) (T := TM) (N := 24) hx hb hts (inC inM) hown hK hP 0 rfl rfl 19 (by decide) (hq _ wi_485) (fun _ h9 => h9) rfl dM_write_41 ?_
  refine tk_sel (g1 := F0 m 55 ls (.int (if (plcF mcp mcl mpl (mpg i) b (u - b)) ≤ men then men else (plcF mcp mcl mpl (mpg i) b (u - b))) :: [.ref h])) (fun hJ_4 => ?_) ?_
  · refine lv_icmp_le (tgt := 51) hx hb dM_write_44 (by decide) (fun c_5 => ?_) (fun c_5 => ?_)
    · refine lv_aload_n hx hb dM_write_51 rfl (lv_at hl 2 rfl) ?_
      refine va_get (D := (dC, dI)) (ci := 4) (v := .int men) (C := RM) (T := TM) (N := 24) hx hb hts (inC inM) hown hK hP 0 rfl rfl 19 (by decide) (hq _ wi_485) (fun _ h9 => h9) rfl dM_write_52 ?_
      exact tk_selx (if_pos c_5) hJ_4
    · refine lv_iload_n hx hb dM_write_47 rfl (lv_at hl 1 rfl) ?_
      refine lv_goto (tgt := 55) hx hb dM_write_48 (by decide) ?_
      exact tk_selx (if_neg c_5) hJ_4
  refine va_put (D := (dC, dI)) (ci := 4) (v := .int (if (plcF mcp mcl mpl (mpg i) b (u - b)) ≤ men then men else (plcF mcp mcl mpl (mpg i) b (u - b)))) (ty := .int) (C := RM) (T := TM) (N := 24) hx hb hts (inC inM) tyM tyM_ok nmM hown hK hP hD hS 0 rfl rfl 19 (by decide) (hq _ wi_485) (fun _ h9 => h9) rfl (by decide +kernel) rfl rfl (Nat.le_of_ble_eq_true rfl) dM_write_55 (fun H locs hP hD hS => ?_)
  have hP : va_P (dC, dI) clB (mw h ad ka mth mnw mcp mcb mcv mcl mbl mpl mfm mto mfs mls mpg mpn mus mdi mst mbs mhd (if (plcF mcp mcl mpl (mpg i) b (u - b)) ≤ men then men else (plcF mcp mcl mpl (mpg i) b (u - b))) (if (plcF mcp mcl mpl (mpg i) b (u - b)) ≤ men then mfl else (mfl + 1)) mrd mwn mlf) H := hP
  have hD : va_D A (mw h ad ka mth mnw mcp mcb mcv mcl mbl mpl mfm mto mfs mls mpg mpn mus mdi mst mbs mhd (if (plcF mcp mcl mpl (mpg i) b (u - b)) ≤ men then men else (plcF mcp mcl mpl (mpg i) b (u - b))) (if (plcF mcp mcl mpl (mpg i) b (u - b)) ≤ men then mfl else (mfl + 1)) mrd mwn mlf) := mw_D hDw
  refine lv_aload_n hx hb dM_write_58 rfl (lv_at hl 2 rfl) ?_
  refine va_get (D := (dC, dI)) (ci := 4) (v := .ref (ad 14)) (C := RM) (T := TM) (N := 24) hx hb hts (inC inM) hown hK hP 0 rfl rfl 16 (by decide) (hq _ wi_482) (fun _ h9 => h9) rfl dM_write_59 ?_
  refine lv_iload_n hx hb dM_write_62 rfl (lv_at hl 3 rfl) ?_
  refine lv_aload_n hx hb dM_write_63 rfl (lv_at hl 2 rfl) ?_
  refine va_get (D := (dC, dI)) (ci := 4) (v := .ref (ad 14)) (C := RM) (T := TM) (N := 24) hx hb hts (inC inM) hown hK hP 0 rfl rfl 16 (by decide) (hq _ wi_482) (fun _ h9 => h9) rfl dM_write_64 ?_
  refine lv_iload_n hx hb dM_write_67 rfl (lv_at hl 3 rfl) ?_
  refine tk_iald (n := i) hx hb hK hP 15 3 rfl rfl ex hi0 (by decide) dM_write_68 ?_
  refine lv_iconst (v := 1) hx hb dM_write_69 (by decide) ?_
  refine lv_iadd hx hb dM_write_70 ?_
  refine lv_ldc (v := 65536) hx hb hown (hq _ wi_604) dM_write_71 ?_
  refine lv_irem hx hb dM_write_73 (by decide) ?_
  refine tk_iast (n := i) hx hb hK hP hD hS 15 3 rfl rfl ex hi0 (by decide) dM_write_74 (fun H locs hP hD hS => ?_)
  have hP : va_P (dC, dI) clB (mw h ad ka mth mnw mcp mcb mcv mcl mbl mpl mfm mto mfs mls mpg mpn mus mdi (upd mst i (((mst i) + 1) - ((mst i) + 1) / 65536 * 65536)) mbs mhd (if (plcF mcp mcl mpl (mpg i) b (u - b)) ≤ men then men else (plcF mcp mcl mpl (mpg i) b (u - b))) (if (plcF mcp mcl mpl (mpg i) b (u - b)) ≤ men then mfl else (mfl + 1)) mrd mwn mlf) H := hP
  have hD : va_D A (mw h ad ka mth mnw mcp mcb mcv mcl mbl mpl mfm mto mfs mls mpg mpn mus mdi (upd mst i (((mst i) + 1) - ((mst i) + 1) / 65536 * 65536)) mbs mhd (if (plcF mcp mcl mpl (mpg i) b (u - b)) ≤ men then men else (plcF mcp mcl mpl (mpg i) b (u - b))) (if (plcF mcp mcl mpl (mpg i) b (u - b)) ≤ men then mfl else (mfl + 1)) mrd mwn mlf) := mw_D hDw
  refine lv_iconst (v := 0) hx hb dM_write_75 (by decide) ?_
  refine lv_istore (lv' := [(4, .int 0), (3, .int (mpg i)), (2, .int (plcF mcp mcl mpl (mpg i) b (u - b))), (0, .ref h), (1, .int x)]) hx hb dM_write_76 hl (by decide) rfl (fun ls hl => ?_)
  subst eu
  refine tk_loop 78 (fun (n : Nat) (z : Nat) H locs ls => (z ≤ 8) ∧ (n = 8 - z) ∧ va_P (dC, dI) clB (mw h ad ka mth (nI u) mcp mcb mcv mcl mbl mpl (secF mfm np (nI b) z) (secF mto np (nI u) z) (fsF mfs np (rs1 (mst i)) z) (lsF mls np (rs1 (mst i)) z) mpg mpn mus mdi (upd mst i (rs1 (mst i))) mbs mhd (if (plcF mcp mcl mpl (mpg i) b (u - b)) ≤ men then men else (plcF mcp mcl mpl (mpg i) b (u - b))) (if (plcF mcp mcl mpl (mpg i) b (u - b)) ≤ men then mfl else mfl + 1) mrd (mwn + nI z) (mlA mlf z)) H ∧ va_D A (mw h ad ka mth (nI u) mcp mcb mcv mcl mbl mpl (secF mfm np (nI b) z) (secF mto np (nI u) z) (fsF mfs np (rs1 (mst i)) z) (lsF mls np (rs1 (mst i)) z) mpg mpn mus mdi (upd mst i (rs1 (mst i))) mbs mhd (if (plcF mcp mcl mpl (mpg i) b (u - b)) ≤ men then men else (plcF mcp mcl mpl (mpg i) b (u - b))) (if (plcF mcp mcl mpl (mpg i) b (u - b)) ≤ men then mfl else mfl + 1) mrd (mwn + nI z) (mlA mlf z)) ∧ va_S A s.heap H locs ∧ lv_has ls 5 [(0, .ref h), (1, .int x), (2, .int (plcF mcp mcl mpl (mpg i) b (u - b))), (3, .int (mpg i)), (4, .int (nI z))]) ?_ 8 0 ⟨Nat.zero_le _, rfl, (by rw [secF_0, secF_0, wn_0]; exact hP), (mw_D hDw), hS, lv_sub hl [3, 4, 2, 1, 0] rfl⟩
  skip
  intro n z H locs ls hI ih
  obtain ⟨hi, hn, hP, hD, hS, hl⟩ := hI
  refine lv_iload hx hb dM_write_78 (lv_at hl 4 rfl) ?_
  refine lv_bipush (v := 8) hx hb dM_write_80 (by decide) ?_
  refine lv_icmp_ge (tgt := 228) hx hb dM_write_82 (by decide) (fun c_6 => ?_) (fun c_6 => ?_)
  · have h8 : z = 8 := by have := (nI_leI (a := 8) (b := z) (by decide) (by omega)).mp c_6; omega
    refine lv_aload_n hx hb dM_write_228 rfl (lv_at hl 0 rfl) ?_
    refine va_get (D := (dC, dI)) (ci := 4) (v := .ref (ad 13)) (C := RM) (T := TM) (N := 24) hx hb hts (inC inM) hown hK hP 0 rfl rfl 15 (by decide) (hq _ wi_481) (fun _ h9 => h9) rfl dM_write_229 ?_
    refine lv_iload_n hx hb dM_write_232 rfl (lv_at hl 1 rfl) ?_
    refine lv_iconst (v := 0) hx hb dM_write_233 (by decide) ?_
    refine tk_zast (n := i) (v := 0) hx hb hK hP hD hS 14 4 rfl rfl ex hi0 (by decide) rfl dM_write_234 (fun H locs hP hD hS => ?_)
    have hP : va_P (dC, dI) clB (mw h ad ka mth (nI u) mcp mcb mcv mcl mbl mpl (secF mfm np (nI b) z) (secF mto np (nI u) z) (fsF mfs np (rs1 (mst i)) z) (lsF mls np (rs1 (mst i)) z) mpg mpn mus (upd mdi i 0) (upd mst i (rs1 (mst i))) mbs mhd (if (plcF mcp mcl mpl (mpg i) b (u - b)) ≤ men then men else (plcF mcp mcl mpl (mpg i) b (u - b))) (if (plcF mcp mcl mpl (mpg i) b (u - b)) ≤ men then mfl else mfl + 1) mrd (mwn + nI z) (mlA mlf z)) H := hP
    have hD : va_D A (mw h ad ka mth (nI u) mcp mcb mcv mcl mbl mpl (secF mfm np (nI b) z) (secF mto np (nI u) z) (fsF mfs np (rs1 (mst i)) z) (lsF mls np (rs1 (mst i)) z) mpg mpn mus (upd mdi i 0) (upd mst i (rs1 (mst i))) mbs mhd (if (plcF mcp mcl mpl (mpg i) b (u - b)) ≤ men then men else (plcF mcp mcl mpl (mpg i) b (u - b))) (if (plcF mcp mcl mpl (mpg i) b (u - b)) ≤ men then mfl else mfl + 1) mrd (mwn + nI z) (mlA mlf z)) := mw_D hDw
    refine lv_iconst (v := 1) hx hb dM_write_235 (by decide) ?_
    exact W.zret (v := 1) (ty := .boolean) hx hb hr rfl (fun t ht hW => ⟨⟨1, (), rfl, rfl, by show va_P _ _ _ t.heap; rw [ht]; exact (h8 ▸ hP)⟩, hS.F ht⟩) hS.2.2 dM_write_236
  · have hz8 : z < 8 := by have := mt (nI_leI (a := 8) (b := z) (by decide) (by omega)).mpr c_6; omega
    refine lv_aload_n hx hb dM_write_85 rfl (lv_at hl 0 rfl) ?_
    refine va_get (D := (dC, dI)) (ci := 4) (v := .int (mlA mlf z)) (C := RM) (T := TM) (N := 24) hx hb hts (inC inM) hown hK hP 0 rfl rfl 23 (by decide) (hq _ wi_489) (fun _ h9 => h9) rfl dM_write_86 ?_
    refine lv_if_ne (tgt := 98) hx hb dM_write_89 (by decide) (fun c_7 => ?_) (fun c_7 => ?_)
    · refine lv_aload_n hx hb dM_write_98 rfl (lv_at hl 0 rfl) ?_
      refine lv_aload_n hx hb dM_write_99 rfl (lv_at hl 0 rfl) ?_
      refine va_get (D := (dC, dI)) (ci := 4) (v := .int (mlA mlf z)) (C := RM) (T := TM) (N := 24) hx hb hts (inC inM) hown hK hP 0 rfl rfl 23 (by decide) (hq _ wi_489) (fun _ h9 => h9) rfl dM_write_100 ?_
      refine tk_sel (g1 := F0 m 119 ls (.int (if (mlA mlf z) ≤ 0 then (mlA mlf z) else ((mlA mlf z) - 1)) :: [.ref h])) (fun hJ_8 => ?_) ?_
      · refine lv_if_le (tgt := 115) hx hb dM_write_103 (by decide) (fun c_9 => ?_) (fun c_9 => ?_)
        · refine lv_aload_n hx hb dM_write_115 rfl (lv_at hl 0 rfl) ?_
          refine va_get (D := (dC, dI)) (ci := 4) (v := .int (mlA mlf z)) (C := RM) (T := TM) (N := 24) hx hb hts (inC inM) hown hK hP 0 rfl rfl 23 (by decide) (hq _ wi_489) (fun _ h9 => h9) rfl dM_write_116 ?_
          exact tk_selx (if_pos c_9) hJ_8
        · refine lv_aload_n hx hb dM_write_106 rfl (lv_at hl 0 rfl) ?_
          refine va_get (D := (dC, dI)) (ci := 4) (v := .int (mlA mlf z)) (C := RM) (T := TM) (N := 24) hx hb hts (inC inM) hown hK hP 0 rfl rfl 23 (by decide) (hq _ wi_489) (fun _ h9 => h9) rfl dM_write_107 ?_
          refine lv_iconst (v := 1) hx hb dM_write_110 (by decide) ?_
          refine lv_isub hx hb dM_write_111 ?_
          refine lv_goto (tgt := 119) hx hb dM_write_112 (by decide) ?_
          exact tk_selx (if_neg c_9) hJ_8
      refine va_put (D := (dC, dI)) (ci := 4) (v := .int (if (mlA mlf z) ≤ 0 then (mlA mlf z) else ((mlA mlf z) - 1))) (ty := .int) (C := RM) (T := TM) (N := 24) hx hb hts (inC inM) tyM tyM_ok nmM hown hK hP hD hS 0 rfl rfl 23 (by decide) (hq _ wi_489) (fun _ h9 => h9) rfl (by decide +kernel) rfl rfl (Nat.le_of_ble_eq_true rfl) dM_write_119 (fun H locs hP hD hS => ?_)
      have hP : va_P (dC, dI) clB (mw h ad ka mth (nI u) mcp mcb mcv mcl mbl mpl (secF mfm np (nI b) z) (secF mto np (nI u) z) (fsF mfs np (rs1 (mst i)) z) (lsF mls np (rs1 (mst i)) z) mpg mpn mus mdi (upd mst i (rs1 (mst i))) mbs mhd (if (plcF mcp mcl mpl (mpg i) b (u - b)) ≤ men then men else (plcF mcp mcl mpl (mpg i) b (u - b))) (if (plcF mcp mcl mpl (mpg i) b (u - b)) ≤ men then mfl else mfl + 1) mrd (mwn + nI z) (if (mlA mlf z) ≤ 0 then (mlA mlf z) else ((mlA mlf z) - 1))) H := hP
      have hD : va_D A (mw h ad ka mth (nI u) mcp mcb mcv mcl mbl mpl (secF mfm np (nI b) z) (secF mto np (nI u) z) (fsF mfs np (rs1 (mst i)) z) (lsF mls np (rs1 (mst i)) z) mpg mpn mus mdi (upd mst i (rs1 (mst i))) mbs mhd (if (plcF mcp mcl mpl (mpg i) b (u - b)) ≤ men then men else (plcF mcp mcl mpl (mpg i) b (u - b))) (if (plcF mcp mcl mpl (mpg i) b (u - b)) ≤ men then mfl else mfl + 1) mrd (mwn + nI z) (if (mlA mlf z) ≤ 0 then (mlA mlf z) else ((mlA mlf z) - 1))) := mw_D hDw
      refine lv_aload_n hx hb dM_write_122 rfl (lv_at hl 0 rfl) ?_
      refine lv_dup hx hb dM_write_123 rfl ?_
      refine va_get (D := (dC, dI)) (ci := 4) (v := .int (mwn + nI z)) (C := RM) (T := TM) (N := 24) hx hb hts (inC inM) hown hK hP 0 rfl rfl 22 (by decide) (hq _ wi_488) (fun _ h9 => h9) rfl dM_write_124 ?_
      refine lv_iconst (v := 1) hx hb dM_write_127 (by decide) ?_
      refine lv_iadd hx hb dM_write_128 ?_
      refine va_put (D := (dC, dI)) (ci := 4) (v := .int ((mwn + nI z) + 1)) (ty := .int) (C := RM) (T := TM) (N := 24) hx hb hts (inC inM) tyM tyM_ok nmM hown hK hP hD hS 0 rfl rfl 22 (by decide) (hq _ wi_488) (fun _ h9 => h9) rfl (by decide +kernel) rfl rfl (Nat.le_of_ble_eq_true rfl) dM_write_129 (fun H locs hP hD hS => ?_)
      have hP : va_P (dC, dI) clB (mw h ad ka mth (nI u) mcp mcb mcv mcl mbl mpl (secF mfm np (nI b) z) (secF mto np (nI u) z) (fsF mfs np (rs1 (mst i)) z) (lsF mls np (rs1 (mst i)) z) mpg mpn mus mdi (upd mst i (rs1 (mst i))) mbs mhd (if (plcF mcp mcl mpl (mpg i) b (u - b)) ≤ men then men else (plcF mcp mcl mpl (mpg i) b (u - b))) (if (plcF mcp mcl mpl (mpg i) b (u - b)) ≤ men then mfl else mfl + 1) mrd ((mwn + nI z) + 1) (if (mlA mlf z) ≤ 0 then (mlA mlf z) else ((mlA mlf z) - 1))) H := hP
      have hD : va_D A (mw h ad ka mth (nI u) mcp mcb mcv mcl mbl mpl (secF mfm np (nI b) z) (secF mto np (nI u) z) (fsF mfs np (rs1 (mst i)) z) (lsF mls np (rs1 (mst i)) z) mpg mpn mus mdi (upd mst i (rs1 (mst i))) mbs mhd (if (plcF mcp mcl mpl (mpg i) b (u - b)) ≤ men then men else (plcF mcp mcl mpl (mpg i) b (u - b))) (if (plcF mcp mcl mpl (mpg i) b (u - b)) ≤ men then mfl else mfl + 1) mrd ((mwn + nI z) + 1) (if (mlA mlf z) ≤ 0 then (mlA mlf z) else ((mlA mlf z) - 1))) := mw_D hDw
      refine lv_aload_n hx hb dM_write_132 rfl (lv_at hl 0 rfl) ?_
      refine va_get (D := (dC, dI)) (ci := 4) (v := .ref (ad 6)) (C := RM) (T := TM) (N := 24) hx hb hts (inC inM) hown hK hP 0 rfl rfl 8 (by decide) (hq _ wi_474) (fun _ h9 => h9) rfl dM_write_133 ?_
      refine lv_bipush (v := 8) hx hb dM_write_136 (by decide) ?_
      refine lv_iload_n hx hb dM_write_138 rfl (lv_at hl 3 rfl) ?_
      refine lv_imul hx hb dM_write_139 ?_
      refine lv_iload hx hb dM_write_140 (lv_at hl 4 rfl) ?_
      refine lv_iadd hx hb dM_write_142 ?_
      refine lv_aload_n hx hb dM_write_143 rfl (lv_at hl 0 rfl) ?_
      refine va_get (D := (dC, dI)) (ci := 4) (v := .ref (ad 15)) (C := RM) (T := TM) (N := 24) hx hb hts (inC inM) hown hK hP 0 rfl rfl 17 (by decide) (hq _ wi_483) (fun _ h9 => h9) rfl dM_write_144 ?_
      refine lv_iload_n hx hb dM_write_147 rfl (lv_at hl 1 rfl) ?_
      refine tk_iald (n := i) hx hb hK hP 16 3 rfl rfl ex hi0 (by decide) dM_write_148 ?_
      refine lv_i2s hx hb dM_write_149 rfl ?_
      refine tk_sast (n := (8 * np + z)) (v := (nI b)) hx hb hK hP hD hS 7 2 rfl rfl (by rw [hpg, sec_i0, nI_add]) (by omega) (by decide) (by rw [eb, nI_s16 (by omega), nI_s16 (by omega)]) dM_write_150 (fun H locs hP hD hS => ?_)
      have hP : va_P (dC, dI) clB (mw h ad ka mth (nI u) mcp mcb mcv mcl mbl mpl (upd (secF mfm np (nI b) z) (8 * np + z) (nI b)) (secF mto np (nI u) z) (fsF mfs np (rs1 (mst i)) z) (lsF mls np (rs1 (mst i)) z) mpg mpn mus mdi (upd mst i (rs1 (mst i))) mbs mhd (if (plcF mcp mcl mpl (mpg i) b (u - b)) ≤ men then men else (plcF mcp mcl mpl (mpg i) b (u - b))) (if (plcF mcp mcl mpl (mpg i) b (u - b)) ≤ men then mfl else mfl + 1) mrd ((mwn + nI z) + 1) (if (mlA mlf z) ≤ 0 then (mlA mlf z) else ((mlA mlf z) - 1))) H := hP
      have hD : va_D A (mw h ad ka mth (nI u) mcp mcb mcv mcl mbl mpl (upd (secF mfm np (nI b) z) (8 * np + z) (nI b)) (secF mto np (nI u) z) (fsF mfs np (rs1 (mst i)) z) (lsF mls np (rs1 (mst i)) z) mpg mpn mus mdi (upd mst i (rs1 (mst i))) mbs mhd (if (plcF mcp mcl mpl (mpg i) b (u - b)) ≤ men then men else (plcF mcp mcl mpl (mpg i) b (u - b))) (if (plcF mcp mcl mpl (mpg i) b (u - b)) ≤ men then mfl else mfl + 1) mrd ((mwn + nI z) + 1) (if (mlA mlf z) ≤ 0 then (mlA mlf z) else ((mlA mlf z) - 1))) := mw_D hDw
      refine lv_aload_n hx hb dM_write_151 rfl (lv_at hl 0 rfl) ?_
      refine va_get (D := (dC, dI)) (ci := 4) (v := .ref (ad 7)) (C := RM) (T := TM) (N := 24) hx hb hts (inC inM) hown hK hP 0 rfl rfl 9 (by decide) (hq _ wi_475) (fun _ h9 => h9) rfl dM_write_152 ?_
      refine lv_bipush (v := 8) hx hb dM_write_155 (by decide) ?_
      refine lv_iload_n hx hb dM_write_157 rfl (lv_at hl 3 rfl) ?_
      refine lv_imul hx hb dM_write_158 ?_
      refine lv_iload hx hb dM_write_159 (lv_at hl 4 rfl) ?_
      refine lv_iadd hx hb dM_write_161 ?_
      refine lv_aload_n hx hb dM_write_162 rfl (lv_at hl 0 rfl) ?_
      refine va_get (D := (dC, dI)) (ci := 4) (v := .int (nI u)) (C := RM) (T := TM) (N := 24) hx hb hts (inC inM) hown hK hP 0 rfl rfl 1 (by decide) (hq _ wi_467) (fun _ h9 => h9) rfl dM_write_163 ?_
      refine lv_i2s hx hb dM_write_166 rfl ?_
      refine tk_sast (n := (8 * np + z)) (v := (nI u)) hx hb hK hP hD hS 8 2 rfl rfl (by rw [hpg, sec_i0, nI_add]) (by omega) (by decide) (by rw [nI_s16 (by omega), nI_s16 (by omega)]) dM_write_167 (fun H locs hP hD hS => ?_)
      have hP : va_P (dC, dI) clB (mw h ad ka mth (nI u) mcp mcb mcv mcl mbl mpl (upd (secF mfm np (nI b) z) (8 * np + z) (nI b)) (upd (secF mto np (nI u) z) (8 * np + z) (nI u)) (fsF mfs np (rs1 (mst i)) z) (lsF mls np (rs1 (mst i)) z) mpg mpn mus mdi (upd mst i (rs1 (mst i))) mbs mhd (if (plcF mcp mcl mpl (mpg i) b (u - b)) ≤ men then men else (plcF mcp mcl mpl (mpg i) b (u - b))) (if (plcF mcp mcl mpl (mpg i) b (u - b)) ≤ men then mfl else mfl + 1) mrd ((mwn + nI z) + 1) (if (mlA mlf z) ≤ 0 then (mlA mlf z) else ((mlA mlf z) - 1))) H := hP
      have hD : va_D A (mw h ad ka mth (nI u) mcp mcb mcv mcl mbl mpl (upd (secF mfm np (nI b) z) (8 * np + z) (nI b)) (upd (secF mto np (nI u) z) (8 * np + z) (nI u)) (fsF mfs np (rs1 (mst i)) z) (lsF mls np (rs1 (mst i)) z) mpg mpn mus mdi (upd mst i (rs1 (mst i))) mbs mhd (if (plcF mcp mcl mpl (mpg i) b (u - b)) ≤ men then men else (plcF mcp mcl mpl (mpg i) b (u - b))) (if (plcF mcp mcl mpl (mpg i) b (u - b)) ≤ men then mfl else mfl + 1) mrd ((mwn + nI z) + 1) (if (mlA mlf z) ≤ 0 then (mlA mlf z) else ((mlA mlf z) - 1))) := mw_D hDw
      refine lv_aload_n hx hb dM_write_168 rfl (lv_at hl 0 rfl) ?_
      refine va_get (D := (dC, dI)) (ci := 4) (v := .ref (ad 8)) (C := RM) (T := TM) (N := 24) hx hb hts (inC inM) hown hK hP 0 rfl rfl 10 (by decide) (hq _ wi_476) (fun _ h9 => h9) rfl dM_write_169 ?_
      refine lv_iload_n hx hb dM_write_172 rfl (lv_at hl 3 rfl) ?_
      refine lv_iload hx hb dM_write_173 (lv_at hl 4 rfl) ?_
      refine tk_sel (g1 := F0 m 193 ls (.int (if (nI z) = 0 then ((upd mst i (rs1 (mst i))) i) else ((fsF mfs np (rs1 (mst i)) z) np)) :: [.int (mpg i), .ref (ad 8)])) (fun hJ_10 => ?_) ?_
      · refine lv_if_ne (tgt := 187) hx hb dM_write_175 (by decide) (fun c_11 => ?_) (fun c_11 => ?_)
        · refine lv_aload_n hx hb dM_write_187 rfl (lv_at hl 0 rfl) ?_
          refine va_get (D := (dC, dI)) (ci := 4) (v := .ref (ad 8)) (C := RM) (T := TM) (N := 24) hx hb hts (inC inM) hown hK hP 0 rfl rfl 10 (by decide) (hq _ wi_476) (fun _ h9 => h9) rfl dM_write_188 ?_
          refine lv_iload_n hx hb dM_write_191 rfl (lv_at hl 3 rfl) ?_
          refine tk_iald (n := np) hx hb hK hP 9 3 rfl rfl hpg hnp (by decide) dM_write_192 ?_
          exact tk_selx (if_neg c_11) hJ_10
        · refine lv_aload_n hx hb dM_write_178 rfl (lv_at hl 0 rfl) ?_
          refine va_get (D := (dC, dI)) (ci := 4) (v := .ref (ad 14)) (C := RM) (T := TM) (N := 24) hx hb hts (inC inM) hown hK hP 0 rfl rfl 16 (by decide) (hq _ wi_482) (fun _ h9 => h9) rfl dM_write_179 ?_
          refine lv_iload_n hx hb dM_write_182 rfl (lv_at hl 1 rfl) ?_
          refine tk_iald (n := i) hx hb hK hP 15 3 rfl rfl ex hi0 (by decide) dM_write_183 ?_
          refine lv_goto (tgt := 193) hx hb dM_write_184 (by decide) ?_
          exact tk_selx (if_pos c_11) hJ_10
      refine tk_iast (n := np) hx hb hK hP hD hS 9 3 rfl rfl hpg hnp (by decide) dM_write_193 (fun H locs hP hD hS => ?_)
      have hP : va_P (dC, dI) clB (mw h ad ka mth (nI u) mcp mcb mcv mcl mbl mpl (upd (secF mfm np (nI b) z) (8 * np + z) (nI b)) (upd (secF mto np (nI u) z) (8 * np + z) (nI u)) (upd (fsF mfs np (rs1 (mst i)) z) np (if (nI z) = 0 then ((upd mst i (rs1 (mst i))) i) else ((fsF mfs np (rs1 (mst i)) z) np))) (lsF mls np (rs1 (mst i)) z) mpg mpn mus mdi (upd mst i (rs1 (mst i))) mbs mhd (if (plcF mcp mcl mpl (mpg i) b (u - b)) ≤ men then men else (plcF mcp mcl mpl (mpg i) b (u - b))) (if (plcF mcp mcl mpl (mpg i) b (u - b)) ≤ men then mfl else mfl + 1) mrd ((mwn + nI z) + 1) (if (mlA mlf z) ≤ 0 then (mlA mlf z) else ((mlA mlf z) - 1))) H := hP
      have hD : va_D A (mw h ad ka mth (nI u) mcp mcb mcv mcl mbl mpl (upd (secF mfm np (nI b) z) (8 * np + z) (nI b)) (upd (secF mto np (nI u) z) (8 * np + z) (nI u)) (upd (fsF mfs np (rs1 (mst i)) z) np (if (nI z) = 0 then ((upd mst i (rs1 (mst i))) i) else ((fsF mfs np (rs1 (mst i)) z) np))) (lsF mls np (rs1 (mst i)) z) mpg mpn mus mdi (upd mst i (rs1 (mst i))) mbs mhd (if (plcF mcp mcl mpl (mpg i) b (u - b)) ≤ men then men else (plcF mcp mcl mpl (mpg i) b (u - b))) (if (plcF mcp mcl mpl (mpg i) b (u - b)) ≤ men then mfl else mfl + 1) mrd ((mwn + nI z) + 1) (if (mlA mlf z) ≤ 0 then (mlA mlf z) else ((mlA mlf z) - 1))) := mw_D hDw
      refine lv_aload_n hx hb dM_write_194 rfl (lv_at hl 0 rfl) ?_
      refine va_get (D := (dC, dI)) (ci := 4) (v := .ref (ad 9)) (C := RM) (T := TM) (N := 24) hx hb hts (inC inM) hown hK hP 0 rfl rfl 11 (by decide) (hq _ wi_477) (fun _ h9 => h9) rfl dM_write_195 ?_
      refine lv_iload_n hx hb dM_write_198 rfl (lv_at hl 3 rfl) ?_
      refine lv_iload hx hb dM_write_199 (lv_at hl 4 rfl) ?_
      refine lv_bipush (v := 7) hx hb dM_write_201 (by decide) ?_
      refine tk_sel (g1 := F0 m 221 ls (.int (if (nI z) = 7 then ((upd mst i (rs1 (mst i))) i) else ((lsF mls np (rs1 (mst i)) z) np)) :: [.int (mpg i), .ref (ad 9)])) (fun hJ_12 => ?_) ?_
      · refine lv_icmp_ne (tgt := 215) hx hb dM_write_203 (by decide) (fun c_13 => ?_) (fun c_13 => ?_)
        · refine lv_aload_n hx hb dM_write_215 rfl (lv_at hl 0 rfl) ?_
          refine va_get (D := (dC, dI)) (ci := 4) (v := .ref (ad 9)) (C := RM) (T := TM) (N := 24) hx hb hts (inC inM) hown hK hP 0 rfl rfl 11 (by decide) (hq _ wi_477) (fun _ h9 => h9) rfl dM_write_216 ?_
          refine lv_iload_n hx hb dM_write_219 rfl (lv_at hl 3 rfl) ?_
          refine tk_iald (n := np) hx hb hK hP 10 3 rfl rfl hpg hnp (by decide) dM_write_220 ?_
          exact tk_selx (if_neg c_13) hJ_12
        · refine lv_aload_n hx hb dM_write_206 rfl (lv_at hl 0 rfl) ?_
          refine va_get (D := (dC, dI)) (ci := 4) (v := .ref (ad 14)) (C := RM) (T := TM) (N := 24) hx hb hts (inC inM) hown hK hP 0 rfl rfl 16 (by decide) (hq _ wi_482) (fun _ h9 => h9) rfl dM_write_207 ?_
          refine lv_iload_n hx hb dM_write_210 rfl (lv_at hl 1 rfl) ?_
          refine tk_iald (n := i) hx hb hK hP 15 3 rfl rfl ex hi0 (by decide) dM_write_211 ?_
          refine lv_goto (tgt := 221) hx hb dM_write_212 (by decide) ?_
          exact tk_selx (if_pos c_13) hJ_12
      refine tk_iast (n := np) hx hb hK hP hD hS 10 3 rfl rfl hpg hnp (by decide) dM_write_221 (fun H locs hP hD hS => ?_)
      have hP : va_P (dC, dI) clB (mw h ad ka mth (nI u) mcp mcb mcv mcl mbl mpl (upd (secF mfm np (nI b) z) (8 * np + z) (nI b)) (upd (secF mto np (nI u) z) (8 * np + z) (nI u)) (upd (fsF mfs np (rs1 (mst i)) z) np (if (nI z) = 0 then ((upd mst i (rs1 (mst i))) i) else ((fsF mfs np (rs1 (mst i)) z) np))) (upd (lsF mls np (rs1 (mst i)) z) np (if (nI z) = 7 then ((upd mst i (rs1 (mst i))) i) else ((lsF mls np (rs1 (mst i)) z) np))) mpg mpn mus mdi (upd mst i (rs1 (mst i))) mbs mhd (if (plcF mcp mcl mpl (mpg i) b (u - b)) ≤ men then men else (plcF mcp mcl mpl (mpg i) b (u - b))) (if (plcF mcp mcl mpl (mpg i) b (u - b)) ≤ men then mfl else mfl + 1) mrd ((mwn + nI z) + 1) (if (mlA mlf z) ≤ 0 then (mlA mlf z) else ((mlA mlf z) - 1))) H := hP
      have hD : va_D A (mw h ad ka mth (nI u) mcp mcb mcv mcl mbl mpl (upd (secF mfm np (nI b) z) (8 * np + z) (nI b)) (upd (secF mto np (nI u) z) (8 * np + z) (nI u)) (upd (fsF mfs np (rs1 (mst i)) z) np (if (nI z) = 0 then ((upd mst i (rs1 (mst i))) i) else ((fsF mfs np (rs1 (mst i)) z) np))) (upd (lsF mls np (rs1 (mst i)) z) np (if (nI z) = 7 then ((upd mst i (rs1 (mst i))) i) else ((lsF mls np (rs1 (mst i)) z) np))) mpg mpn mus mdi (upd mst i (rs1 (mst i))) mbs mhd (if (plcF mcp mcl mpl (mpg i) b (u - b)) ≤ men then men else (plcF mcp mcl mpl (mpg i) b (u - b))) (if (plcF mcp mcl mpl (mpg i) b (u - b)) ≤ men then mfl else mfl + 1) mrd ((mwn + nI z) + 1) (if (mlA mlf z) ≤ 0 then (mlA mlf z) else ((mlA mlf z) - 1))) := mw_D hDw
      refine lv_iinc (v := ((nI z) + 1)) (lv' := [(4, .int ((nI z) + 1)), (0, .ref h), (1, .int x), (2, .int (plcF mcp mcl mpl (mpg i) b (u - b))), (3, .int (mpg i))]) hx hb dM_write_222 hl (k := 4) rfl rfl (by decide) rfl (fun ls hl => ?_)
      refine lv_goto (tgt := 78) hx hb dM_write_225 (by decide) ?_
      have e1 : (if (mlA mlf z) ≤ 0 then (mlA mlf z) else ((mlA mlf z) - 1)) = mlA mlf (z + 1) := rfl
      exact ih (n - 1) (z + 1) _ _ _ (by omega) ⟨by omega, by omega, (by rw [← secF_s, ← secF_s, ← fsF_s (z := z) (v' := upd mst i (rs1 (mst i)) i) (by omega) pk_us, ← lsF_s (z := z) (v' := upd mst i (rs1 (mst i)) i) (by omega) pk_us, ← wn_s]; exact hP), (mw_D hDw), hS, lv_sub hl [1, 2, 3, 4, 0] (by rw [← nI_1 z]; rfl)⟩
    · exact absurd c_7 (hok z hz8)

set_option maxHeartbeats 4000000 in
set_option maxRecDepth 100000 in
theorem c_M_write_cut (l : Launch) (dC : Nat → ClassId) (dI : Nat → Nat → Nat) (ka : Nat → ClassId) (sz : Nat) (h : Nat) (ad : Nat → Nat) (mth mnw : Int32) (mcp mcb mcv mcl mbl mpl mfm mto mfs mls mpg mpn mus mdi mst mbs : Nat → Int32) (mhd men mfl mrd mwn mlf : Int32) (x : Int32) (i np b u mm : Nat) (cpN cbN : Nat → Nat) (ex : x = nI i) (hi0 : i < 12) (hpg : mpg i = nI np) (hnp : np < 192) (eb : mbs i = nI b) (eu : mnw = nI u) (hbu : b ≤ u) (hu : u < 520) (hch : ∀ e, 1 ≤ e → e ≤ u → mcp e = nI (cpN e) ∧ cpN e < 192 ∧ mcb e = nI (cbN e) ∧ cbN e < 512) (hm8 : mm < 8) (hnz : ∀ z, z < mm → ¬ mlA mlf z = 0) (h0 : mlA mlf mm = 0) : Met l yM_write wM_write ({ frames := 2, cells := 0, slots := 0, locals := 46 }) (va_Pc [.ref h, .int x] (fun U => U.heap.size = sz ∧ tk_E dC dI ka U ∧ va_P (dC, dI) clB (mw h ad ka mth mnw mcp mcb mcv mcl mbl mpl mfm mto mfs mls mpg mpn mus mdi mst mbs mhd men mfl mrd mwn mlf) U.heap ∧ va_D (fun _ => True) (mw h ad ka mth mnw mcp mcb mcv mcl mbl mpl mfm mto mfs mls mpg mpn mus mdi mst mbs mhd men mfl mrd mwn mlf))) (va_Qi (fun (r : Int32) (_ : Unit) => r = 0) (fun _ t => va_P (dC, dI) clB (mw h ad ka mth mnw mcp mcb mcv mcl (stepF mbl (lsB mbl (secF mto np (nI u) mm) cpN cbN) (u + 1)) (stepF mpl (lsP mpl (secF mto np (nI u) mm) cpN) (u + 1)) (secF mfm np (nI b) mm) (secF mto np (nI u) mm) (fsF mfs np (rs1 (mst i)) mm) (lsF mls np (rs1 (mst i)) mm) (dropF (-1) mpg 12) mpn mus mdi (upd mst i (rs1 (mst i))) mbs 0 (if (plcF mcp mcl mpl (mpg i) b (u - b)) ≤ men then men else (plcF mcp mcl mpl (mpg i) b (u - b))) (if (plcF mcp mcl mpl (mpg i) b (u - b)) ≤ men then mfl else mfl + 1) mrd (mwn + nI mm) (-1)) t.heap) (va_A (mw h ad ka mth mnw mcp mcb mcv mcl mbl mpl mfm mto mfs mls mpg mpn mus mdi mst mbs mhd men mfl mrd mwn mlf) sz)) 0 0 (va_A (mw h ad ka mth mnw mcp mcb mcv mcl mbl mpl mfm mto mfs mls mpg mpn mus mdi mst mbs mhd men mfl mrd mwn mlf) sz) := by
  refine Met.ofW (cc := cM_write) (maxL := 5) (ret := (some .boolean)) (by decide) rfl ?_
  intro p e s m args below meth c s₁ B hml hv
  obtain ⟨rfl, hsz, hE, hP, hD0⟩ := hv
  have hx := B.exec
  have hb := B.bytes
  have hr := B.returns
  have hts := atoms_spec (ws := wM_write) B.pre
  have hq : ∀ w ∈ lwg, w.before _ s = true := fun w h => hts w (List.mem_cons_of_mem _ h)
  have hown : s.vm.findClass RM = some m.cls := findClass_of_methodNamed B.named
  have hlocks := B.notSynchronized
  have hK := hE.1
  have hN := hE.2
  subst hsz
  have hD := hD0.self (sz := s.heap.size)
  generalize hAe : va_A (mw h ad ka mth mnw mcp mcb mcv mcl mbl mpl mfm mto mfs mls mpg mpn mus mdi mst mbs mhd men mfl mrd mwn mlf) s.heap.size = A at hD ⊢
  have hA : ∀ q : Nat, s.heap.size ≤ q → A q := fun q h => by rw [← hAe]; exact Or.inr h
  have hS : va_S A s.heap s.heap [] := va_S.rf
  have hDw := hD
  have hP : va_P (dC, dI) clB (mw h ad ka mth mnw mcp mcb mcv mcl mbl mpl mfm mto mfs mls mpg mpn mus mdi mst mbs mhd men mfl mrd mwn mlf) s.heap := hP
  have hl := lv_entry ([.ref h, .int x]) (n := 5) (Nat.le_of_ble_eq_true rfl)
  rw [lg_entry_eq]
  generalize (lg_sl ([.ref h, .int x]) ++ List.replicate (5 - (lg_sl ([.ref h, .int x])).length) Slot.unset).toArray = ls at hl ⊢
  have hl : lv_has ls 5 [(0, .ref h), (1, .int x)] := hl
  refine lv_aload_n hx hb dM_write_0 rfl (lv_at hl 0 rfl) ?_
  refine lv_iload_n hx hb dM_write_1 rfl (lv_at hl 1 rfl) ?_
  refine vp_callSi (va_Run.run (va_runV (As := [.int x]) (rest := []) ⟨hx, hb, hml, hown, hts⟩ (c_M_framePlace l dC dI ka h ad mth mnw mcp mcb mcv mcl mbl mpl mfm mto mfs mls mpg mpn mus mdi mst mbs mhd men mfl mrd mwn mlf x i b u ex hi0 eb eu hbu hu) (cwV 1 hts (tw_V wi_553 wi_555 wi_11 wi_28 wi_556) rfl rfl rfl (by decide +kernel) ⟨Nat.le_of_ble_eq_true rfl, Nat.le_of_ble_eq_true rfl⟩) ⟨fun a U g mk q => ⟨q.1, tk_E.call q.2.1, q.2.2⟩, va_recv hK hP (ci := 4) (q0 := 0) rfl rfl, fun U hU hW => ⟨rfl, tk_E.warm hW hE, by rw [hU]; exact hP⟩⟩ rfl rfl hl.1 rfl (lv_room (Nat.le_of_ble_eq_true rfl)) dM_write_2 ⟨Nat.zero_le _, Nat.zero_le _⟩)) (fun r_1 er_1 => ?_)
  subst er_1
  refine lv_istore_n (lv' := [(2, .int (plcF mcp mcl mpl (mpg i) b (u - b))), (0, .ref h), (1, .int x)]) hx hb dM_write_5 rfl hl (by decide) rfl (fun ls hl => ?_)
  refine lv_aload_n hx hb dM_write_6 rfl (lv_at hl 1 rfl) ?_
  refine va_get (D := (dC, dI)) (ci := 4) (v := .ref (ad 10)) (C := RM) (T := TM) (N := 24) hx hb hts (inC inM) hown hK hP 0 rfl rfl 12 (by decide) (hq _ wi_478) (fun _ h9 => h9) rfl dM_write_7 ?_
  refine lv_iload_n hx hb dM_write_10 rfl (lv_at hl 2 rfl) ?_
  refine tk_iald (n := i) hx hb hK hP 11 3 rfl rfl ex hi0 (by decide) dM_write_11 ?_
  refine lv_istore_n (lv' := [(3, .int (mpg i)), (2, .int (plcF mcp mcl mpl (mpg i) b (u - b))), (0, .ref h), (1, .int x)]) hx hb dM_write_12 rfl hl (by decide) rfl (fun ls hl => ?_)
  refine lv_aload_n hx hb dM_write_13 rfl (lv_at hl 2 rfl) ?_
  refine lv_iload_n hx hb dM_write_14 rfl (lv_at hl 1 rfl) ?_
  refine lv_aload_n hx hb dM_write_15 rfl (lv_at hl 2 rfl) ?_
  refine va_get (D := (dC, dI)) (ci := 4) (v := .int men) (C := RM) (T := TM) (N := 24) hx hb hts (inC inM) hown hK hP 0 rfl rfl 19 (by decide) (hq _ wi_485) (fun _ h9 => h9) rfl dM_write_16 ?_
  refine tk_sel (g1 := F0 m 35 ls (.int (if (plcF mcp mcl mpl (mpg i) b (u - b)) ≤ men then mfl else (mfl + 1)) :: [.ref h])) (fun hJ_2 => ?_) ?_
  · refine lv_icmp_le (tgt := 31) hx hb dM_write_19 (by decide) (fun c_3 => ?_) (fun c_3 => ?_)
    · refine lv_aload_n hx hb dM_write_31 rfl (lv_at hl 2 rfl) ?_
      refine va_get (D := (dC, dI)) (ci := 4) (v := .int mfl) (C := RM) (T := TM) (N := 24) hx hb hts (inC inM) hown hK hP 0 rfl rfl 20 (by decide) (hq _ wi_486) (fun _ h9 => h9) rfl dM_write_32 ?_
      exact tk_selx (if_pos c_3) hJ_2
    · refine lv_aload_n hx hb dM_write_22 rfl (lv_at hl 2 rfl) ?_
      refine va_get (D := (dC, dI)) (ci := 4) (v := .int mfl) (C := RM) (T := TM) (N := 24) hx hb hts (inC inM) hown hK hP 0 rfl rfl 20 (by decide) (hq _ wi_486) (fun _ h9 => h9) rfl dM_write_23 ?_
      refine lv_iconst (v := 1) hx hb dM_write_26 (by decide) ?_
      refine lv_iadd hx hb dM_write_27 ?_
      refine lv_goto (tgt := 35) hx hb dM_write_28 (by decide) ?_
      exact tk_selx (if_neg c_3) hJ_2
  refine va_put (D := (dC, dI)) (ci := 4) (v := .int (if (plcF mcp mcl mpl (mpg i) b (u - b)) ≤ men then mfl else (mfl + 1))) (ty := .int) (C := RM) (T := TM) (N := 24) hx hb hts (inC inM) tyM tyM_ok nmM hown hK hP hD hS 0 rfl rfl 20 (by decide) (hq _ wi_486) (fun _ h9 => h9) rfl (by decide +kernel) rfl rfl (Nat.le_of_ble_eq_true rfl) dM_write_35 (fun H locs hP hD hS => ?_)
  have hP : va_P (dC, dI) clB (mw h ad ka mth mnw mcp mcb mcv mcl mbl mpl mfm mto mfs mls mpg mpn mus mdi mst mbs mhd men (if (plcF mcp mcl mpl (mpg i) b (u - b)) ≤ men then mfl else (mfl + 1)) mrd mwn mlf) H := hP
  have hD : va_D A (mw h ad ka mth mnw mcp mcb mcv mcl mbl mpl mfm mto mfs mls mpg mpn mus mdi mst mbs mhd men (if (plcF mcp mcl mpl (mpg i) b (u - b)) ≤ men then mfl else (mfl + 1)) mrd mwn mlf) := mw_D hDw
  refine lv_aload_n hx hb dM_write_38 rfl (lv_at hl 2 rfl) ?_
  refine lv_iload_n hx hb dM_write_39 rfl (lv_at hl 1 rfl) ?_
  refine lv_aload_n hx hb dM_write_40 rfl (lv_at hl 2 rfl) ?_
  refine va_get (D := (dC, dI)) (ci := 4) (v := .int men) (C := RM) (T := TM) (N := 24) hx hb hts (inC inM) hown hK hP 0 rfl rfl 19 (by decide) (hq _ wi_485) (fun _ h9 => h9) rfl dM_write_41 ?_
  refine tk_sel (g1 := F0 m 55 ls (.int (if (plcF mcp mcl mpl (mpg i) b (u - b)) ≤ men then men else (plcF mcp mcl mpl (mpg i) b (u - b))) :: [.ref h])) (fun hJ_4 => ?_) ?_
  · refine lv_icmp_le (tgt := 51) hx hb dM_write_44 (by decide) (fun c_5 => ?_) (fun c_5 => ?_)
    · refine lv_aload_n hx hb dM_write_51 rfl (lv_at hl 2 rfl) ?_
      refine va_get (D := (dC, dI)) (ci := 4) (v := .int men) (C := RM) (T := TM) (N := 24) hx hb hts (inC inM) hown hK hP 0 rfl rfl 19 (by decide) (hq _ wi_485) (fun _ h9 => h9) rfl dM_write_52 ?_
      exact tk_selx (if_pos c_5) hJ_4
    · refine lv_iload_n hx hb dM_write_47 rfl (lv_at hl 1 rfl) ?_
      refine lv_goto (tgt := 55) hx hb dM_write_48 (by decide) ?_
      exact tk_selx (if_neg c_5) hJ_4
  refine va_put (D := (dC, dI)) (ci := 4) (v := .int (if (plcF mcp mcl mpl (mpg i) b (u - b)) ≤ men then men else (plcF mcp mcl mpl (mpg i) b (u - b)))) (ty := .int) (C := RM) (T := TM) (N := 24) hx hb hts (inC inM) tyM tyM_ok nmM hown hK hP hD hS 0 rfl rfl 19 (by decide) (hq _ wi_485) (fun _ h9 => h9) rfl (by decide +kernel) rfl rfl (Nat.le_of_ble_eq_true rfl) dM_write_55 (fun H locs hP hD hS => ?_)
  have hP : va_P (dC, dI) clB (mw h ad ka mth mnw mcp mcb mcv mcl mbl mpl mfm mto mfs mls mpg mpn mus mdi mst mbs mhd (if (plcF mcp mcl mpl (mpg i) b (u - b)) ≤ men then men else (plcF mcp mcl mpl (mpg i) b (u - b))) (if (plcF mcp mcl mpl (mpg i) b (u - b)) ≤ men then mfl else (mfl + 1)) mrd mwn mlf) H := hP
  have hD : va_D A (mw h ad ka mth mnw mcp mcb mcv mcl mbl mpl mfm mto mfs mls mpg mpn mus mdi mst mbs mhd (if (plcF mcp mcl mpl (mpg i) b (u - b)) ≤ men then men else (plcF mcp mcl mpl (mpg i) b (u - b))) (if (plcF mcp mcl mpl (mpg i) b (u - b)) ≤ men then mfl else (mfl + 1)) mrd mwn mlf) := mw_D hDw
  refine lv_aload_n hx hb dM_write_58 rfl (lv_at hl 2 rfl) ?_
  refine va_get (D := (dC, dI)) (ci := 4) (v := .ref (ad 14)) (C := RM) (T := TM) (N := 24) hx hb hts (inC inM) hown hK hP 0 rfl rfl 16 (by decide) (hq _ wi_482) (fun _ h9 => h9) rfl dM_write_59 ?_
  refine lv_iload_n hx hb dM_write_62 rfl (lv_at hl 3 rfl) ?_
  refine lv_aload_n hx hb dM_write_63 rfl (lv_at hl 2 rfl) ?_
  refine va_get (D := (dC, dI)) (ci := 4) (v := .ref (ad 14)) (C := RM) (T := TM) (N := 24) hx hb hts (inC inM) hown hK hP 0 rfl rfl 16 (by decide) (hq _ wi_482) (fun _ h9 => h9) rfl dM_write_64 ?_
  refine lv_iload_n hx hb dM_write_67 rfl (lv_at hl 3 rfl) ?_
  refine tk_iald (n := i) hx hb hK hP 15 3 rfl rfl ex hi0 (by decide) dM_write_68 ?_
  refine lv_iconst (v := 1) hx hb dM_write_69 (by decide) ?_
  refine lv_iadd hx hb dM_write_70 ?_
  refine lv_ldc (v := 65536) hx hb hown (hq _ wi_604) dM_write_71 ?_
  refine lv_irem hx hb dM_write_73 (by decide) ?_
  refine tk_iast (n := i) hx hb hK hP hD hS 15 3 rfl rfl ex hi0 (by decide) dM_write_74 (fun H locs hP hD hS => ?_)
  have hP : va_P (dC, dI) clB (mw h ad ka mth mnw mcp mcb mcv mcl mbl mpl mfm mto mfs mls mpg mpn mus mdi (upd mst i (((mst i) + 1) - ((mst i) + 1) / 65536 * 65536)) mbs mhd (if (plcF mcp mcl mpl (mpg i) b (u - b)) ≤ men then men else (plcF mcp mcl mpl (mpg i) b (u - b))) (if (plcF mcp mcl mpl (mpg i) b (u - b)) ≤ men then mfl else (mfl + 1)) mrd mwn mlf) H := hP
  have hD : va_D A (mw h ad ka mth mnw mcp mcb mcv mcl mbl mpl mfm mto mfs mls mpg mpn mus mdi (upd mst i (((mst i) + 1) - ((mst i) + 1) / 65536 * 65536)) mbs mhd (if (plcF mcp mcl mpl (mpg i) b (u - b)) ≤ men then men else (plcF mcp mcl mpl (mpg i) b (u - b))) (if (plcF mcp mcl mpl (mpg i) b (u - b)) ≤ men then mfl else (mfl + 1)) mrd mwn mlf) := mw_D hDw
  refine lv_iconst (v := 0) hx hb dM_write_75 (by decide) ?_
  refine lv_istore (lv' := [(4, .int 0), (3, .int (mpg i)), (2, .int (plcF mcp mcl mpl (mpg i) b (u - b))), (0, .ref h), (1, .int x)]) hx hb dM_write_76 hl (by decide) rfl (fun ls hl => ?_)
  subst eu
  refine tk_loop 78 (fun (n : Nat) (z : Nat) H locs ls => (z ≤ mm) ∧ (n = mm - z) ∧ va_P (dC, dI) clB (mw h ad ka mth (nI u) mcp mcb mcv mcl mbl mpl (secF mfm np (nI b) z) (secF mto np (nI u) z) (fsF mfs np (rs1 (mst i)) z) (lsF mls np (rs1 (mst i)) z) mpg mpn mus mdi (upd mst i (rs1 (mst i))) mbs mhd (if (plcF mcp mcl mpl (mpg i) b (u - b)) ≤ men then men else (plcF mcp mcl mpl (mpg i) b (u - b))) (if (plcF mcp mcl mpl (mpg i) b (u - b)) ≤ men then mfl else mfl + 1) mrd (mwn + nI z) (mlA mlf z)) H ∧ va_D A (mw h ad ka mth (nI u) mcp mcb mcv mcl mbl mpl (secF mfm np (nI b) z) (secF mto np (nI u) z) (fsF mfs np (rs1 (mst i)) z) (lsF mls np (rs1 (mst i)) z) mpg mpn mus mdi (upd mst i (rs1 (mst i))) mbs mhd (if (plcF mcp mcl mpl (mpg i) b (u - b)) ≤ men then men else (plcF mcp mcl mpl (mpg i) b (u - b))) (if (plcF mcp mcl mpl (mpg i) b (u - b)) ≤ men then mfl else mfl + 1) mrd (mwn + nI z) (mlA mlf z)) ∧ va_S A s.heap H locs ∧ lv_has ls 5 [(0, .ref h), (1, .int x), (2, .int (plcF mcp mcl mpl (mpg i) b (u - b))), (3, .int (mpg i)), (4, .int (nI z))]) ?_ mm 0 ⟨Nat.zero_le _, rfl, (by rw [secF_0, secF_0, wn_0]; exact hP), (mw_D hDw), hS, lv_sub hl [3, 4, 2, 1, 0] rfl⟩
  skip
  intro n z H locs ls hI ih
  obtain ⟨hi, hn, hP, hD, hS, hl⟩ := hI
  refine lv_iload hx hb dM_write_78 (lv_at hl 4 rfl) ?_
  refine lv_bipush (v := 8) hx hb dM_write_80 (by decide) ?_
  refine lv_icmp_ge (tgt := 228) hx hb dM_write_82 (by decide) (fun c_6 => ?_) (fun c_6 => ?_)
  · exact absurd ((nI_leI (a := 8) (b := z) (by decide) (by omega)).mp c_6) (by omega)
  · rcases Nat.lt_or_ge z mm with hzm | hzm
    · refine lv_aload_n hx hb dM_write_85 rfl (lv_at hl 0 rfl) ?_
      refine va_get (D := (dC, dI)) (ci := 4) (v := .int (mlA mlf z)) (C := RM) (T := TM) (N := 24) hx hb hts (inC inM) hown hK hP 0 rfl rfl 23 (by decide) (hq _ wi_489) (fun _ h9 => h9) rfl dM_write_86 ?_
      refine lv_if_ne (tgt := 98) hx hb dM_write_89 (by decide) (fun c_7 => ?_) (fun c_7 => ?_)
      · refine lv_aload_n hx hb dM_write_98 rfl (lv_at hl 0 rfl) ?_
        refine lv_aload_n hx hb dM_write_99 rfl (lv_at hl 0 rfl) ?_
        refine va_get (D := (dC, dI)) (ci := 4) (v := .int (mlA mlf z)) (C := RM) (T := TM) (N := 24) hx hb hts (inC inM) hown hK hP 0 rfl rfl 23 (by decide) (hq _ wi_489) (fun _ h9 => h9) rfl dM_write_100 ?_
        refine tk_sel (g1 := F0 m 119 ls (.int (if (mlA mlf z) ≤ 0 then (mlA mlf z) else ((mlA mlf z) - 1)) :: [.ref h])) (fun hJ_8 => ?_) ?_
        · refine lv_if_le (tgt := 115) hx hb dM_write_103 (by decide) (fun c_9 => ?_) (fun c_9 => ?_)
          · refine lv_aload_n hx hb dM_write_115 rfl (lv_at hl 0 rfl) ?_
            refine va_get (D := (dC, dI)) (ci := 4) (v := .int (mlA mlf z)) (C := RM) (T := TM) (N := 24) hx hb hts (inC inM) hown hK hP 0 rfl rfl 23 (by decide) (hq _ wi_489) (fun _ h9 => h9) rfl dM_write_116 ?_
            exact tk_selx (if_pos c_9) hJ_8
          · refine lv_aload_n hx hb dM_write_106 rfl (lv_at hl 0 rfl) ?_
            refine va_get (D := (dC, dI)) (ci := 4) (v := .int (mlA mlf z)) (C := RM) (T := TM) (N := 24) hx hb hts (inC inM) hown hK hP 0 rfl rfl 23 (by decide) (hq _ wi_489) (fun _ h9 => h9) rfl dM_write_107 ?_
            refine lv_iconst (v := 1) hx hb dM_write_110 (by decide) ?_
            refine lv_isub hx hb dM_write_111 ?_
            refine lv_goto (tgt := 119) hx hb dM_write_112 (by decide) ?_
            exact tk_selx (if_neg c_9) hJ_8
        refine va_put (D := (dC, dI)) (ci := 4) (v := .int (if (mlA mlf z) ≤ 0 then (mlA mlf z) else ((mlA mlf z) - 1))) (ty := .int) (C := RM) (T := TM) (N := 24) hx hb hts (inC inM) tyM tyM_ok nmM hown hK hP hD hS 0 rfl rfl 23 (by decide) (hq _ wi_489) (fun _ h9 => h9) rfl (by decide +kernel) rfl rfl (Nat.le_of_ble_eq_true rfl) dM_write_119 (fun H locs hP hD hS => ?_)
        have hP : va_P (dC, dI) clB (mw h ad ka mth (nI u) mcp mcb mcv mcl mbl mpl (secF mfm np (nI b) z) (secF mto np (nI u) z) (fsF mfs np (rs1 (mst i)) z) (lsF mls np (rs1 (mst i)) z) mpg mpn mus mdi (upd mst i (rs1 (mst i))) mbs mhd (if (plcF mcp mcl mpl (mpg i) b (u - b)) ≤ men then men else (plcF mcp mcl mpl (mpg i) b (u - b))) (if (plcF mcp mcl mpl (mpg i) b (u - b)) ≤ men then mfl else mfl + 1) mrd (mwn + nI z) (if (mlA mlf z) ≤ 0 then (mlA mlf z) else ((mlA mlf z) - 1))) H := hP
        have hD : va_D A (mw h ad ka mth (nI u) mcp mcb mcv mcl mbl mpl (secF mfm np (nI b) z) (secF mto np (nI u) z) (fsF mfs np (rs1 (mst i)) z) (lsF mls np (rs1 (mst i)) z) mpg mpn mus mdi (upd mst i (rs1 (mst i))) mbs mhd (if (plcF mcp mcl mpl (mpg i) b (u - b)) ≤ men then men else (plcF mcp mcl mpl (mpg i) b (u - b))) (if (plcF mcp mcl mpl (mpg i) b (u - b)) ≤ men then mfl else mfl + 1) mrd (mwn + nI z) (if (mlA mlf z) ≤ 0 then (mlA mlf z) else ((mlA mlf z) - 1))) := mw_D hDw
        refine lv_aload_n hx hb dM_write_122 rfl (lv_at hl 0 rfl) ?_
        refine lv_dup hx hb dM_write_123 rfl ?_
        refine va_get (D := (dC, dI)) (ci := 4) (v := .int (mwn + nI z)) (C := RM) (T := TM) (N := 24) hx hb hts (inC inM) hown hK hP 0 rfl rfl 22 (by decide) (hq _ wi_488) (fun _ h9 => h9) rfl dM_write_124 ?_
        refine lv_iconst (v := 1) hx hb dM_write_127 (by decide) ?_
        refine lv_iadd hx hb dM_write_128 ?_
        refine va_put (D := (dC, dI)) (ci := 4) (v := .int ((mwn + nI z) + 1)) (ty := .int) (C := RM) (T := TM) (N := 24) hx hb hts (inC inM) tyM tyM_ok nmM hown hK hP hD hS 0 rfl rfl 22 (by decide) (hq _ wi_488) (fun _ h9 => h9) rfl (by decide +kernel) rfl rfl (Nat.le_of_ble_eq_true rfl) dM_write_129 (fun H locs hP hD hS => ?_)
        have hP : va_P (dC, dI) clB (mw h ad ka mth (nI u) mcp mcb mcv mcl mbl mpl (secF mfm np (nI b) z) (secF mto np (nI u) z) (fsF mfs np (rs1 (mst i)) z) (lsF mls np (rs1 (mst i)) z) mpg mpn mus mdi (upd mst i (rs1 (mst i))) mbs mhd (if (plcF mcp mcl mpl (mpg i) b (u - b)) ≤ men then men else (plcF mcp mcl mpl (mpg i) b (u - b))) (if (plcF mcp mcl mpl (mpg i) b (u - b)) ≤ men then mfl else mfl + 1) mrd ((mwn + nI z) + 1) (if (mlA mlf z) ≤ 0 then (mlA mlf z) else ((mlA mlf z) - 1))) H := hP
        have hD : va_D A (mw h ad ka mth (nI u) mcp mcb mcv mcl mbl mpl (secF mfm np (nI b) z) (secF mto np (nI u) z) (fsF mfs np (rs1 (mst i)) z) (lsF mls np (rs1 (mst i)) z) mpg mpn mus mdi (upd mst i (rs1 (mst i))) mbs mhd (if (plcF mcp mcl mpl (mpg i) b (u - b)) ≤ men then men else (plcF mcp mcl mpl (mpg i) b (u - b))) (if (plcF mcp mcl mpl (mpg i) b (u - b)) ≤ men then mfl else mfl + 1) mrd ((mwn + nI z) + 1) (if (mlA mlf z) ≤ 0 then (mlA mlf z) else ((mlA mlf z) - 1))) := mw_D hDw
        refine lv_aload_n hx hb dM_write_132 rfl (lv_at hl 0 rfl) ?_
        refine va_get (D := (dC, dI)) (ci := 4) (v := .ref (ad 6)) (C := RM) (T := TM) (N := 24) hx hb hts (inC inM) hown hK hP 0 rfl rfl 8 (by decide) (hq _ wi_474) (fun _ h9 => h9) rfl dM_write_133 ?_
        refine lv_bipush (v := 8) hx hb dM_write_136 (by decide) ?_
        refine lv_iload_n hx hb dM_write_138 rfl (lv_at hl 3 rfl) ?_
        refine lv_imul hx hb dM_write_139 ?_
        refine lv_iload hx hb dM_write_140 (lv_at hl 4 rfl) ?_
        refine lv_iadd hx hb dM_write_142 ?_
        refine lv_aload_n hx hb dM_write_143 rfl (lv_at hl 0 rfl) ?_
        refine va_get (D := (dC, dI)) (ci := 4) (v := .ref (ad 15)) (C := RM) (T := TM) (N := 24) hx hb hts (inC inM) hown hK hP 0 rfl rfl 17 (by decide) (hq _ wi_483) (fun _ h9 => h9) rfl dM_write_144 ?_
        refine lv_iload_n hx hb dM_write_147 rfl (lv_at hl 1 rfl) ?_
        refine tk_iald (n := i) hx hb hK hP 16 3 rfl rfl ex hi0 (by decide) dM_write_148 ?_
        refine lv_i2s hx hb dM_write_149 rfl ?_
        refine tk_sast (n := (8 * np + z)) (v := (nI b)) hx hb hK hP hD hS 7 2 rfl rfl (by rw [hpg, sec_i0, nI_add]) (by omega) (by decide) (by rw [eb, nI_s16 (by omega), nI_s16 (by omega)]) dM_write_150 (fun H locs hP hD hS => ?_)
        have hP : va_P (dC, dI) clB (mw h ad ka mth (nI u) mcp mcb mcv mcl mbl mpl (upd (secF mfm np (nI b) z) (8 * np + z) (nI b)) (secF mto np (nI u) z) (fsF mfs np (rs1 (mst i)) z) (lsF mls np (rs1 (mst i)) z) mpg mpn mus mdi (upd mst i (rs1 (mst i))) mbs mhd (if (plcF mcp mcl mpl (mpg i) b (u - b)) ≤ men then men else (plcF mcp mcl mpl (mpg i) b (u - b))) (if (plcF mcp mcl mpl (mpg i) b (u - b)) ≤ men then mfl else mfl + 1) mrd ((mwn + nI z) + 1) (if (mlA mlf z) ≤ 0 then (mlA mlf z) else ((mlA mlf z) - 1))) H := hP
        have hD : va_D A (mw h ad ka mth (nI u) mcp mcb mcv mcl mbl mpl (upd (secF mfm np (nI b) z) (8 * np + z) (nI b)) (secF mto np (nI u) z) (fsF mfs np (rs1 (mst i)) z) (lsF mls np (rs1 (mst i)) z) mpg mpn mus mdi (upd mst i (rs1 (mst i))) mbs mhd (if (plcF mcp mcl mpl (mpg i) b (u - b)) ≤ men then men else (plcF mcp mcl mpl (mpg i) b (u - b))) (if (plcF mcp mcl mpl (mpg i) b (u - b)) ≤ men then mfl else mfl + 1) mrd ((mwn + nI z) + 1) (if (mlA mlf z) ≤ 0 then (mlA mlf z) else ((mlA mlf z) - 1))) := mw_D hDw
        refine lv_aload_n hx hb dM_write_151 rfl (lv_at hl 0 rfl) ?_
        refine va_get (D := (dC, dI)) (ci := 4) (v := .ref (ad 7)) (C := RM) (T := TM) (N := 24) hx hb hts (inC inM) hown hK hP 0 rfl rfl 9 (by decide) (hq _ wi_475) (fun _ h9 => h9) rfl dM_write_152 ?_
        refine lv_bipush (v := 8) hx hb dM_write_155 (by decide) ?_
        refine lv_iload_n hx hb dM_write_157 rfl (lv_at hl 3 rfl) ?_
        refine lv_imul hx hb dM_write_158 ?_
        refine lv_iload hx hb dM_write_159 (lv_at hl 4 rfl) ?_
        refine lv_iadd hx hb dM_write_161 ?_
        refine lv_aload_n hx hb dM_write_162 rfl (lv_at hl 0 rfl) ?_
        refine va_get (D := (dC, dI)) (ci := 4) (v := .int (nI u)) (C := RM) (T := TM) (N := 24) hx hb hts (inC inM) hown hK hP 0 rfl rfl 1 (by decide) (hq _ wi_467) (fun _ h9 => h9) rfl dM_write_163 ?_
        refine lv_i2s hx hb dM_write_166 rfl ?_
        refine tk_sast (n := (8 * np + z)) (v := (nI u)) hx hb hK hP hD hS 8 2 rfl rfl (by rw [hpg, sec_i0, nI_add]) (by omega) (by decide) (by rw [nI_s16 (by omega), nI_s16 (by omega)]) dM_write_167 (fun H locs hP hD hS => ?_)
        have hP : va_P (dC, dI) clB (mw h ad ka mth (nI u) mcp mcb mcv mcl mbl mpl (upd (secF mfm np (nI b) z) (8 * np + z) (nI b)) (upd (secF mto np (nI u) z) (8 * np + z) (nI u)) (fsF mfs np (rs1 (mst i)) z) (lsF mls np (rs1 (mst i)) z) mpg mpn mus mdi (upd mst i (rs1 (mst i))) mbs mhd (if (plcF mcp mcl mpl (mpg i) b (u - b)) ≤ men then men else (plcF mcp mcl mpl (mpg i) b (u - b))) (if (plcF mcp mcl mpl (mpg i) b (u - b)) ≤ men then mfl else mfl + 1) mrd ((mwn + nI z) + 1) (if (mlA mlf z) ≤ 0 then (mlA mlf z) else ((mlA mlf z) - 1))) H := hP
        have hD : va_D A (mw h ad ka mth (nI u) mcp mcb mcv mcl mbl mpl (upd (secF mfm np (nI b) z) (8 * np + z) (nI b)) (upd (secF mto np (nI u) z) (8 * np + z) (nI u)) (fsF mfs np (rs1 (mst i)) z) (lsF mls np (rs1 (mst i)) z) mpg mpn mus mdi (upd mst i (rs1 (mst i))) mbs mhd (if (plcF mcp mcl mpl (mpg i) b (u - b)) ≤ men then men else (plcF mcp mcl mpl (mpg i) b (u - b))) (if (plcF mcp mcl mpl (mpg i) b (u - b)) ≤ men then mfl else mfl + 1) mrd ((mwn + nI z) + 1) (if (mlA mlf z) ≤ 0 then (mlA mlf z) else ((mlA mlf z) - 1))) := mw_D hDw
        refine lv_aload_n hx hb dM_write_168 rfl (lv_at hl 0 rfl) ?_
        refine va_get (D := (dC, dI)) (ci := 4) (v := .ref (ad 8)) (C := RM) (T := TM) (N := 24) hx hb hts (inC inM) hown hK hP 0 rfl rfl 10 (by decide) (hq _ wi_476) (fun _ h9 => h9) rfl dM_write_169 ?_
        refine lv_iload_n hx hb dM_write_172 rfl (lv_at hl 3 rfl) ?_
        refine lv_iload hx hb dM_write_173 (lv_at hl 4 rfl) ?_
        refine tk_sel (g1 := F0 m 193 ls (.int (if (nI z) = 0 then ((upd mst i (rs1 (mst i))) i) else ((fsF mfs np (rs1 (mst i)) z) np)) :: [.int (mpg i), .ref (ad 8)])) (fun hJ_10 => ?_) ?_
        · refine lv_if_ne (tgt := 187) hx hb dM_write_175 (by decide) (fun c_11 => ?_) (fun c_11 => ?_)
          · refine lv_aload_n hx hb dM_write_187 rfl (lv_at hl 0 rfl) ?_
            refine va_get (D := (dC, dI)) (ci := 4) (v := .ref (ad 8)) (C := RM) (T := TM) (N := 24) hx hb hts (inC inM) hown hK hP 0 rfl rfl 10 (by decide) (hq _ wi_476) (fun _ h9 => h9) rfl dM_write_188 ?_
            refine lv_iload_n hx hb dM_write_191 rfl (lv_at hl 3 rfl) ?_
            refine tk_iald (n := np) hx hb hK hP 9 3 rfl rfl hpg hnp (by decide) dM_write_192 ?_
            exact tk_selx (if_neg c_11) hJ_10
          · refine lv_aload_n hx hb dM_write_178 rfl (lv_at hl 0 rfl) ?_
            refine va_get (D := (dC, dI)) (ci := 4) (v := .ref (ad 14)) (C := RM) (T := TM) (N := 24) hx hb hts (inC inM) hown hK hP 0 rfl rfl 16 (by decide) (hq _ wi_482) (fun _ h9 => h9) rfl dM_write_179 ?_
            refine lv_iload_n hx hb dM_write_182 rfl (lv_at hl 1 rfl) ?_
            refine tk_iald (n := i) hx hb hK hP 15 3 rfl rfl ex hi0 (by decide) dM_write_183 ?_
            refine lv_goto (tgt := 193) hx hb dM_write_184 (by decide) ?_
            exact tk_selx (if_pos c_11) hJ_10
        refine tk_iast (n := np) hx hb hK hP hD hS 9 3 rfl rfl hpg hnp (by decide) dM_write_193 (fun H locs hP hD hS => ?_)
        have hP : va_P (dC, dI) clB (mw h ad ka mth (nI u) mcp mcb mcv mcl mbl mpl (upd (secF mfm np (nI b) z) (8 * np + z) (nI b)) (upd (secF mto np (nI u) z) (8 * np + z) (nI u)) (upd (fsF mfs np (rs1 (mst i)) z) np (if (nI z) = 0 then ((upd mst i (rs1 (mst i))) i) else ((fsF mfs np (rs1 (mst i)) z) np))) (lsF mls np (rs1 (mst i)) z) mpg mpn mus mdi (upd mst i (rs1 (mst i))) mbs mhd (if (plcF mcp mcl mpl (mpg i) b (u - b)) ≤ men then men else (plcF mcp mcl mpl (mpg i) b (u - b))) (if (plcF mcp mcl mpl (mpg i) b (u - b)) ≤ men then mfl else mfl + 1) mrd ((mwn + nI z) + 1) (if (mlA mlf z) ≤ 0 then (mlA mlf z) else ((mlA mlf z) - 1))) H := hP
        have hD : va_D A (mw h ad ka mth (nI u) mcp mcb mcv mcl mbl mpl (upd (secF mfm np (nI b) z) (8 * np + z) (nI b)) (upd (secF mto np (nI u) z) (8 * np + z) (nI u)) (upd (fsF mfs np (rs1 (mst i)) z) np (if (nI z) = 0 then ((upd mst i (rs1 (mst i))) i) else ((fsF mfs np (rs1 (mst i)) z) np))) (lsF mls np (rs1 (mst i)) z) mpg mpn mus mdi (upd mst i (rs1 (mst i))) mbs mhd (if (plcF mcp mcl mpl (mpg i) b (u - b)) ≤ men then men else (plcF mcp mcl mpl (mpg i) b (u - b))) (if (plcF mcp mcl mpl (mpg i) b (u - b)) ≤ men then mfl else mfl + 1) mrd ((mwn + nI z) + 1) (if (mlA mlf z) ≤ 0 then (mlA mlf z) else ((mlA mlf z) - 1))) := mw_D hDw
        refine lv_aload_n hx hb dM_write_194 rfl (lv_at hl 0 rfl) ?_
        refine va_get (D := (dC, dI)) (ci := 4) (v := .ref (ad 9)) (C := RM) (T := TM) (N := 24) hx hb hts (inC inM) hown hK hP 0 rfl rfl 11 (by decide) (hq _ wi_477) (fun _ h9 => h9) rfl dM_write_195 ?_
        refine lv_iload_n hx hb dM_write_198 rfl (lv_at hl 3 rfl) ?_
        refine lv_iload hx hb dM_write_199 (lv_at hl 4 rfl) ?_
        refine lv_bipush (v := 7) hx hb dM_write_201 (by decide) ?_
        refine tk_sel (g1 := F0 m 221 ls (.int (if (nI z) = 7 then ((upd mst i (rs1 (mst i))) i) else ((lsF mls np (rs1 (mst i)) z) np)) :: [.int (mpg i), .ref (ad 9)])) (fun hJ_12 => ?_) ?_
        · refine lv_icmp_ne (tgt := 215) hx hb dM_write_203 (by decide) (fun c_13 => ?_) (fun c_13 => ?_)
          · refine lv_aload_n hx hb dM_write_215 rfl (lv_at hl 0 rfl) ?_
            refine va_get (D := (dC, dI)) (ci := 4) (v := .ref (ad 9)) (C := RM) (T := TM) (N := 24) hx hb hts (inC inM) hown hK hP 0 rfl rfl 11 (by decide) (hq _ wi_477) (fun _ h9 => h9) rfl dM_write_216 ?_
            refine lv_iload_n hx hb dM_write_219 rfl (lv_at hl 3 rfl) ?_
            refine tk_iald (n := np) hx hb hK hP 10 3 rfl rfl hpg hnp (by decide) dM_write_220 ?_
            exact tk_selx (if_neg c_13) hJ_12
          · refine lv_aload_n hx hb dM_write_206 rfl (lv_at hl 0 rfl) ?_
            refine va_get (D := (dC, dI)) (ci := 4) (v := .ref (ad 14)) (C := RM) (T := TM) (N := 24) hx hb hts (inC inM) hown hK hP 0 rfl rfl 16 (by decide) (hq _ wi_482) (fun _ h9 => h9) rfl dM_write_207 ?_
            refine lv_iload_n hx hb dM_write_210 rfl (lv_at hl 1 rfl) ?_
            refine tk_iald (n := i) hx hb hK hP 15 3 rfl rfl ex hi0 (by decide) dM_write_211 ?_
            refine lv_goto (tgt := 221) hx hb dM_write_212 (by decide) ?_
            exact tk_selx (if_pos c_13) hJ_12
        refine tk_iast (n := np) hx hb hK hP hD hS 10 3 rfl rfl hpg hnp (by decide) dM_write_221 (fun H locs hP hD hS => ?_)
        have hP : va_P (dC, dI) clB (mw h ad ka mth (nI u) mcp mcb mcv mcl mbl mpl (upd (secF mfm np (nI b) z) (8 * np + z) (nI b)) (upd (secF mto np (nI u) z) (8 * np + z) (nI u)) (upd (fsF mfs np (rs1 (mst i)) z) np (if (nI z) = 0 then ((upd mst i (rs1 (mst i))) i) else ((fsF mfs np (rs1 (mst i)) z) np))) (upd (lsF mls np (rs1 (mst i)) z) np (if (nI z) = 7 then ((upd mst i (rs1 (mst i))) i) else ((lsF mls np (rs1 (mst i)) z) np))) mpg mpn mus mdi (upd mst i (rs1 (mst i))) mbs mhd (if (plcF mcp mcl mpl (mpg i) b (u - b)) ≤ men then men else (plcF mcp mcl mpl (mpg i) b (u - b))) (if (plcF mcp mcl mpl (mpg i) b (u - b)) ≤ men then mfl else mfl + 1) mrd ((mwn + nI z) + 1) (if (mlA mlf z) ≤ 0 then (mlA mlf z) else ((mlA mlf z) - 1))) H := hP
        have hD : va_D A (mw h ad ka mth (nI u) mcp mcb mcv mcl mbl mpl (upd (secF mfm np (nI b) z) (8 * np + z) (nI b)) (upd (secF mto np (nI u) z) (8 * np + z) (nI u)) (upd (fsF mfs np (rs1 (mst i)) z) np (if (nI z) = 0 then ((upd mst i (rs1 (mst i))) i) else ((fsF mfs np (rs1 (mst i)) z) np))) (upd (lsF mls np (rs1 (mst i)) z) np (if (nI z) = 7 then ((upd mst i (rs1 (mst i))) i) else ((lsF mls np (rs1 (mst i)) z) np))) mpg mpn mus mdi (upd mst i (rs1 (mst i))) mbs mhd (if (plcF mcp mcl mpl (mpg i) b (u - b)) ≤ men then men else (plcF mcp mcl mpl (mpg i) b (u - b))) (if (plcF mcp mcl mpl (mpg i) b (u - b)) ≤ men then mfl else mfl + 1) mrd ((mwn + nI z) + 1) (if (mlA mlf z) ≤ 0 then (mlA mlf z) else ((mlA mlf z) - 1))) := mw_D hDw
        refine lv_iinc (v := ((nI z) + 1)) (lv' := [(4, .int ((nI z) + 1)), (0, .ref h), (1, .int x), (2, .int (plcF mcp mcl mpl (mpg i) b (u - b))), (3, .int (mpg i))]) hx hb dM_write_222 hl (k := 4) rfl rfl (by decide) rfl (fun ls hl => ?_)
        refine lv_goto (tgt := 78) hx hb dM_write_225 (by decide) ?_
        have e1 : (if (mlA mlf z) ≤ 0 then (mlA mlf z) else ((mlA mlf z) - 1)) = mlA mlf (z + 1) := rfl
        exact ih (n - 1) (z + 1) _ _ _ (by omega) ⟨by omega, by omega, (by rw [← secF_s, ← secF_s, ← fsF_s (z := z) (v' := upd mst i (rs1 (mst i)) i) (by omega) pk_us, ← lsF_s (z := z) (v' := upd mst i (rs1 (mst i)) i) (by omega) pk_us, ← wn_s]; exact hP), (mw_D hDw), hS, lv_sub hl [1, 2, 3, 4, 0] (by rw [← nI_1 z]; rfl)⟩
      · exact absurd c_7 (hnz z hzm)
    · have ez : z = mm := by omega
      refine lv_aload_n hx hb dM_write_85 rfl (lv_at hl 0 rfl) ?_
      refine va_get (D := (dC, dI)) (ci := 4) (v := .int (mlA mlf z)) (C := RM) (T := TM) (N := 24) hx hb hts (inC inM) hown hK hP 0 rfl rfl 23 (by decide) (hq _ wi_489) (fun _ h9 => h9) rfl dM_write_86 ?_
      refine lv_if_ne (tgt := 98) hx hb dM_write_89 (by decide) (fun c_14 => ?_) (fun c_14 => ?_)
      · exact absurd (by rw [ez]; exact h0) c_14
      · refine lv_aload_n hx hb dM_write_92 rfl (lv_at hl 0 rfl) ?_
        have hFc := tk_freeW hD hS hA
        refine va_callv (va_runV (As := []) (rest := []) ⟨hx, hb, hml, hown, hts⟩ (c_M_cut l dC dI ka _ h ad mth (nI u) mcp mcb mcv mcl mbl mpl (secF mfm np (nI b) z) (secF mto np (nI u) z) (fsF mfs np (rs1 (mst i)) z) (lsF mls np (rs1 (mst i)) z) mpg mpn mus mdi (upd mst i (rs1 (mst i))) mbs mhd (if (plcF mcp mcl mpl (mpg i) b (u - b)) ≤ men then men else (plcF mcp mcl mpl (mpg i) b (u - b))) (if (plcF mcp mcl mpl (mpg i) b (u - b)) ≤ men then mfl else mfl + 1) mrd (mwn + nI z) (mlA mlf z) cpN cbN u rfl hu hch) (cwV 0 hts (tw_V wi_605 wi_607 wi_20 wi_28 wi_608) rfl rfl rfl (by decide +kernel) ⟨Nat.le_of_ble_eq_true rfl, Nat.le_of_ble_eq_true rfl⟩) ⟨fun a U g mk q => ⟨q.1, q.2.1, tk_E.call q.2.2.1, q.2.2.2⟩, va_recv hK hP (ci := 4) (q0 := 0) rfl rfl, fun U hU hW => ⟨rfl, by rw [hU], tk_E.warm hW hE, by rw [hU]; exact hP, hD.weaken (fun _ _ _ _ => trivial)⟩⟩ rfl rfl hl.1 rfl (lv_room (Nat.le_of_ble_eq_true rfl)) dM_write_93 ⟨Nat.zero_le _, Nat.zero_le _⟩) hS (fun q _ h => hFc q h) hFc (fun u_15 t H1 locs ht hvm hw hB hz1 hk1 hS => ?_)
        have hB : va_P (dC, dI) clB (mw h ad ka mth (nI u) mcp mcb mcv mcl (stepF mbl (lsB mbl (secF mto np (nI u) z) cpN cbN) (u + 1)) (stepF mpl (lsP mpl (secF mto np (nI u) z) cpN) (u + 1)) (secF mfm np (nI b) z) (secF mto np (nI u) z) (fsF mfs np (rs1 (mst i)) z) (lsF mls np (rs1 (mst i)) z) (dropF (-1) mpg 12) mpn mus mdi (upd mst i (rs1 (mst i))) mbs 0 (if (plcF mcp mcl mpl (mpg i) b (u - b)) ≤ men then men else (plcF mcp mcl mpl (mpg i) b (u - b))) (if (plcF mcp mcl mpl (mpg i) b (u - b)) ≤ men then mfl else mfl + 1) mrd (mwn + nI z) (-1)) H1 := by rw [← ht]; exact hB
        obtain ⟨hP, hD⟩ := (⟨hB, mw_D hDw⟩ : va_P (dC, dI) clB (mw h ad ka mth (nI u) mcp mcb mcv mcl (stepF mbl (lsB mbl (secF mto np (nI u) z) cpN cbN) (u + 1)) (stepF mpl (lsP mpl (secF mto np (nI u) z) cpN) (u + 1)) (secF mfm np (nI b) z) (secF mto np (nI u) z) (fsF mfs np (rs1 (mst i)) z) (lsF mls np (rs1 (mst i)) z) (dropF (-1) mpg 12) mpn mus mdi (upd mst i (rs1 (mst i))) mbs 0 (if (plcF mcp mcl mpl (mpg i) b (u - b)) ≤ men then men else (plcF mcp mcl mpl (mpg i) b (u - b))) (if (plcF mcp mcl mpl (mpg i) b (u - b)) ≤ men then mfl else mfl + 1) mrd (mwn + nI z) (-1)) H1 ∧ va_D A (mw h ad ka mth (nI u) mcp mcb mcv mcl (stepF mbl (lsB mbl (secF mto np (nI u) z) cpN cbN) (u + 1)) (stepF mpl (lsP mpl (secF mto np (nI u) z) cpN) (u + 1)) (secF mfm np (nI b) z) (secF mto np (nI u) z) (fsF mfs np (rs1 (mst i)) z) (lsF mls np (rs1 (mst i)) z) (dropF (-1) mpg 12) mpn mus mdi (upd mst i (rs1 (mst i))) mbs 0 (if (plcF mcp mcl mpl (mpg i) b (u - b)) ≤ men then men else (plcF mcp mcl mpl (mpg i) b (u - b))) (if (plcF mcp mcl mpl (mpg i) b (u - b)) ≤ men then mfl else mfl + 1) mrd (mwn + nI z) (-1)))
        generalize H1 = H at hP hS ⊢
        have hP : va_P (dC, dI) clB (mw h ad ka mth (nI u) mcp mcb mcv mcl (stepF mbl (lsB mbl (secF mto np (nI u) z) cpN cbN) (u + 1)) (stepF mpl (lsP mpl (secF mto np (nI u) z) cpN) (u + 1)) (secF mfm np (nI b) z) (secF mto np (nI u) z) (fsF mfs np (rs1 (mst i)) z) (lsF mls np (rs1 (mst i)) z) (dropF (-1) mpg 12) mpn mus mdi (upd mst i (rs1 (mst i))) mbs 0 (if (plcF mcp mcl mpl (mpg i) b (u - b)) ≤ men then men else (plcF mcp mcl mpl (mpg i) b (u - b))) (if (plcF mcp mcl mpl (mpg i) b (u - b)) ≤ men then mfl else mfl + 1) mrd (mwn + nI z) (-1)) H := hP
        have hD : va_D A (mw h ad ka mth (nI u) mcp mcb mcv mcl (stepF mbl (lsB mbl (secF mto np (nI u) z) cpN cbN) (u + 1)) (stepF mpl (lsP mpl (secF mto np (nI u) z) cpN) (u + 1)) (secF mfm np (nI b) z) (secF mto np (nI u) z) (fsF mfs np (rs1 (mst i)) z) (lsF mls np (rs1 (mst i)) z) (dropF (-1) mpg 12) mpn mus mdi (upd mst i (rs1 (mst i))) mbs 0 (if (plcF mcp mcl mpl (mpg i) b (u - b)) ≤ men then men else (plcF mcp mcl mpl (mpg i) b (u - b))) (if (plcF mcp mcl mpl (mpg i) b (u - b)) ≤ men then mfl else mfl + 1) mrd (mwn + nI z) (-1)) := mw_D hDw
        refine lv_iconst (v := 0) hx hb dM_write_96 (by decide) ?_
        exact W.zret (v := 0) (ty := .boolean) hx hb hr rfl (fun t ht hW => ⟨⟨0, (), rfl, rfl, by show va_P _ _ _ t.heap; rw [ht]; exact (ez ▸ hP)⟩, hS.F ht⟩) hS.2.2 dM_write_97
