theorem tk_out5 {x : Int32} (h0 : ¬ x = 0) (h1 : ¬ x = 1) (h2 : ¬ x = 2) (h3 : ¬ x = 3) (h4 : ¬ x = 4) : x.toInt < 0 ∨ 4 < x.toInt := by
  have a0 : ¬ x.toInt = 0 := lv_neT h0 (by decide)
  have a1 : ¬ x.toInt = 1 := lv_neT h1 (by decide)
  have a2 : ¬ x.toInt = 2 := lv_neT h2 (by decide)
  have a3 : ¬ x.toInt = 3 := lv_neT h3 (by decide)
  have a4 : ¬ x.toInt = 4 := lv_neT h4 (by decide)
  omega

theorem tk_out6 {x : Int32} (h0 : ¬ x = 0) (h1 : ¬ x = 1) (h2 : ¬ x = 2) (h3 : ¬ x = 3) (h4 : ¬ x = 4) (h5 : ¬ x = 5) : x.toInt < 0 ∨ 5 < x.toInt := by
  have a0 : ¬ x.toInt = 0 := lv_neT h0 (by decide)
  have a1 : ¬ x.toInt = 1 := lv_neT h1 (by decide)
  have a2 : ¬ x.toInt = 2 := lv_neT h2 (by decide)
  have a3 : ¬ x.toInt = 3 := lv_neT h3 (by decide)
  have a4 : ¬ x.toInt = 4 := lv_neT h4 (by decide)
  have a5 : ¬ x.toInt = 5 := lv_neT h5 (by decide)
  omega

theorem tk_out13 {x : Int32} (h0 : ¬ x = 0) (h1 : ¬ x = 1) (h2 : ¬ x = 2) (h3 : ¬ x = 3) (h4 : ¬ x = 4) (h5 : ¬ x = 5) (h6 : ¬ x = 6) (h7 : ¬ x = 7) (h8 : ¬ x = 8) (h9 : ¬ x = 9) (h10 : ¬ x = 10) (h11 : ¬ x = 11) (h12 : ¬ x = 12) : x.toInt < 0 ∨ 12 < x.toInt := by
  have a0 : ¬ x.toInt = 0 := lv_neT h0 (by decide)
  have a1 : ¬ x.toInt = 1 := lv_neT h1 (by decide)
  have a2 : ¬ x.toInt = 2 := lv_neT h2 (by decide)
  have a3 : ¬ x.toInt = 3 := lv_neT h3 (by decide)
  have a4 : ¬ x.toInt = 4 := lv_neT h4 (by decide)
  have a5 : ¬ x.toInt = 5 := lv_neT h5 (by decide)
  have a6 : ¬ x.toInt = 6 := lv_neT h6 (by decide)
  have a7 : ¬ x.toInt = 7 := lv_neT h7 (by decide)
  have a8 : ¬ x.toInt = 8 := lv_neT h8 (by decide)
  have a9 : ¬ x.toInt = 9 := lv_neT h9 (by decide)
  have a10 : ¬ x.toInt = 10 := lv_neT h10 (by decide)
  have a11 : ¬ x.toInt = 11 := lv_neT h11 (by decide)
  have a12 : ¬ x.toInt = 12 := lv_neT h12 (by decide)
  omega

def lookV (pg pn us di : Nat → Int32) (bt : Nat → Nat → Int32) (n : Nat) (y : Int32) : Int32 := if y = 0 then pg n else if y = 1 then pn n else if y = 2 then us n else if y = 3 then (if di n = 0 then 0 else 1) else if y = 4 then plB (bt n) else -1
def countV (pg : Nat → Int32) (wn rd en fl hd y : Int32) : Int32 := if y = 0 then hd else if y = 1 then rd else if y = 2 then wn else if y = 3 then en else if y = 4 then fl else if y = 5 then nI (cntP pg 12) else -1
set_option maxHeartbeats 4000000 in
set_option maxRecDepth 100000 in
theorem c_B_look_f0 (l : Launch) (dC : Nat → ClassId) (dI : Nat → Nat → Nat) (ka : Nat → ClassId) (h dr db lg fa : Nat) (fr fb : Nat → Nat) (pg pn us di : Nat → Int32) (bt : Nat → Nat → Int32) (dk : Nat → Int32) (lf wn rd en fl hd : Int32) (x y : Int32) (hx0 : x < 0 ∨ nI 12 ≤ x) : Met l yB_look wB_look ({ frames := 1, cells := 0, slots := 0, locals := 20 }) (va_Pc [.ref h, .int x, .int y] (fun U => tk_E dC dI ka U ∧ va_P (dC, dI) clB (dw h dr db lg fa fr fb ka pg pn us di bt dk lf wn rd en fl hd) U.heap)) (vp_Si (fun r => r = -1)) 0 0 (fun _ => False) := by
  refine Met.ofW (cc := cB_look) (maxL := 3) (ret := (some .int)) (by decide) rfl ?_
  intro p e s m args below meth c s₁ B hml hv
  obtain ⟨rfl, hE, hP⟩ := hv
  have hx := B.exec
  have hb := B.bytes
  have hr := B.returns
  have hts := atoms_spec (ws := wB_look) B.pre
  have hq : ∀ w ∈ lwg, w.before _ s = true := fun w h => hts w (List.mem_cons_of_mem _ h)
  have hown : s.vm.findClass RB = some m.cls := findClass_of_methodNamed B.named
  have hlocks := B.notSynchronized
  have hK := hE.1
  have hN := hE.2
  have hP : va_P (dC, dI) clB (dw h dr db lg fa fr fb ka pg pn us di bt dk lf wn rd en fl hd) s.heap := hP
  have hl := lv_entry ([.ref h, .int x, .int y]) (n := 3) (Nat.le_of_ble_eq_true rfl)
  rw [lg_entry_eq]
  generalize (lg_sl ([.ref h, .int x, .int y]) ++ List.replicate (3 - (lg_sl ([.ref h, .int x, .int y])).length) Slot.unset).toArray = ls at hl ⊢
  have hl : lv_has ls 3 [(0, .ref h), (1, .int x), (2, .int y)] := hl
  refine lv_iload_n hx hb dB_look_0 rfl (lv_at hl 1 rfl) ?_
  refine vp_callSi (va_Run.run (va_runS (As := [.int x]) (rest := []) ⟨hx, hb, hml, hown, hts⟩ (c_B_isFrame l dC dI ka x) (cwS 1 hts (tw_S wi_131 wi_132 wi_24 wi_133) rfl rfl rfl (by decide +kernel) ⟨Nat.le_of_ble_eq_true rfl, Nat.le_of_ble_eq_true rfl⟩) ⟨fun a U g mk q => ⟨q.1, tk_E.call q.2.1, q.2.2⟩, fun U hU hW => ⟨rfl, tk_E.warm hW hE, by rw [hU]; exact (fun k q h => by simp at h)⟩⟩ rfl rfl hl.1 rfl (lv_room (Nat.le_of_ble_eq_true rfl)) dB_look_1 ⟨Nat.zero_le _, Nat.zero_le _⟩)) (fun r_1 er_1 => ?_)
  replace er_1 := er_1.trans (tk_is0 (N := 12) hx0)
  subst er_1
  refine lv_if_eq (tgt := 19) hx hb dB_look_4 (by decide) (fun c_2 => ?_) (fun c_2 => ?_)
  · refine lv_iconst (v := (-1)) hx hb dB_look_19 (by decide) ?_
    exact W.iret (v := (-1)) hx hb hr (fun t ht hW => ⟨(-1), rfl, rfl, ht⟩) (fun _ h => by cases h) dB_look_20
  · exact absurd c_2 (by decide)

set_option maxHeartbeats 4000000 in
set_option maxRecDepth 100000 in
theorem c_B_look_e0 (l : Launch) (dC : Nat → ClassId) (dI : Nat → Nat → Nat) (ka : Nat → ClassId) (h dr db lg fa : Nat) (fr fb : Nat → Nat) (pg pn us di : Nat → Int32) (bt : Nat → Nat → Int32) (dk : Nat → Int32) (lf wn rd en fl hd : Int32) (x y : Int32) (n : Nat) (ex : x = nI n) (hn : n < 12) (he : pg n = -1) : Met l yB_look wB_look ({ frames := 1, cells := 0, slots := 0, locals := 20 }) (va_Pc [.ref h, .int x, .int y] (fun U => tk_E dC dI ka U ∧ va_P (dC, dI) clB (dw h dr db lg fa fr fb ka pg pn us di bt dk lf wn rd en fl hd) U.heap)) (vp_Si (fun r => r = -1)) 0 0 (fun _ => False) := by
  refine Met.ofW (cc := cB_look) (maxL := 3) (ret := (some .int)) (by decide) rfl ?_
  intro p e s m args below meth c s₁ B hml hv
  obtain ⟨rfl, hE, hP⟩ := hv
  have hx := B.exec
  have hb := B.bytes
  have hr := B.returns
  have hts := atoms_spec (ws := wB_look) B.pre
  have hq : ∀ w ∈ lwg, w.before _ s = true := fun w h => hts w (List.mem_cons_of_mem _ h)
  have hown : s.vm.findClass RB = some m.cls := findClass_of_methodNamed B.named
  have hlocks := B.notSynchronized
  have hK := hE.1
  have hN := hE.2
  have hP : va_P (dC, dI) clB (dw h dr db lg fa fr fb ka pg pn us di bt dk lf wn rd en fl hd) s.heap := hP
  have hl := lv_entry ([.ref h, .int x, .int y]) (n := 3) (Nat.le_of_ble_eq_true rfl)
  rw [lg_entry_eq]
  generalize (lg_sl ([.ref h, .int x, .int y]) ++ List.replicate (3 - (lg_sl ([.ref h, .int x, .int y])).length) Slot.unset).toArray = ls at hl ⊢
  have hl : lv_has ls 3 [(0, .ref h), (1, .int x), (2, .int y)] := hl
  refine lv_iload_n hx hb dB_look_0 rfl (lv_at hl 1 rfl) ?_
  refine vp_callSi (va_Run.run (va_runS (As := [.int x]) (rest := []) ⟨hx, hb, hml, hown, hts⟩ (c_B_isFrame l dC dI ka x) (cwS 1 hts (tw_S wi_131 wi_132 wi_24 wi_133) rfl rfl rfl (by decide +kernel) ⟨Nat.le_of_ble_eq_true rfl, Nat.le_of_ble_eq_true rfl⟩) ⟨fun a U g mk q => ⟨q.1, tk_E.call q.2.1, q.2.2⟩, fun U hU hW => ⟨rfl, tk_E.warm hW hE, by rw [hU]; exact (fun k q h => by simp at h)⟩⟩ rfl rfl hl.1 rfl (lv_room (Nat.le_of_ble_eq_true rfl)) dB_look_1 ⟨Nat.zero_le _, Nat.zero_le _⟩)) (fun r_1 er_1 => ?_)
  replace er_1 := er_1.trans (tk_is1 (N := 12) ex hn (by decide))
  subst er_1
  refine lv_if_eq (tgt := 19) hx hb dB_look_4 (by decide) (fun c_2 => ?_) (fun c_2 => ?_)
  · exact absurd c_2 (by decide)
  · refine lv_aload_n hx hb dB_look_7 rfl (lv_at hl 0 rfl) ?_
    refine va_get (D := (dC, dI)) (ci := 3) (v := .ref fa) (C := RB) (T := TB) (N := 4) hx hb hts (inC inB) hown hK hP 0 rfl rfl 2 (by decide) (hq _ wi_116) (fun _ h9 => h9) rfl dB_look_8 ?_
    refine lv_iload_n hx hb dB_look_11 rfl (lv_at hl 1 rfl) ?_
    refine tk_aald (n := n) (y := fr n) hx hb hK hP 4 1 rfl rfl ex hn (by decide) rfl dB_look_12 ?_
    refine vp_callSi (va_Run.run (va_runV (As := []) (rest := []) ⟨hx, hb, hml, hown, hts⟩ (c_F_isEmpty l dC dI ka (fr n) (fb n) (pg n) (pn n) (us n) (di n)) (cwV 0 hts (tw_V wi_149 wi_150 wi_151 wi_27 wi_152) rfl rfl rfl (by decide +kernel) ⟨Nat.le_of_ble_eq_true rfl, Nat.le_of_ble_eq_true rfl⟩) ⟨fun a U g mk q => ⟨q.1, tk_E.call q.2.1, q.2.2⟩, va_recv hK hP (ci := 1) (q0 := (5 + n)) rfl (dw_fr hn), fun U hU hW => ⟨rfl, tk_E.warm hW hE, by rw [hU]; exact (tk_one hP (k := 5 + n) (dw_fr hn))⟩⟩ rfl rfl hl.1 rfl (lv_room (Nat.le_of_ble_eq_true rfl)) dB_look_13 ⟨Nat.zero_le _, Nat.zero_le _⟩)) (fun r_3 er_3 => ?_)
    replace er_3 := er_3.trans (if_pos he)
    subst er_3
    refine lv_if_eq (tgt := 21) hx hb dB_look_16 (by decide) (fun c_4 => ?_) (fun c_4 => ?_)
    · exact absurd c_4 (by decide)
    · refine lv_iconst (v := (-1)) hx hb dB_look_19 (by decide) ?_
      exact W.iret (v := (-1)) hx hb hr (fun t ht hW => ⟨(-1), rfl, rfl, ht⟩) (fun _ h => by cases h) dB_look_20

set_option maxHeartbeats 4000000 in
set_option maxRecDepth 100000 in
theorem c_B_look_in (l : Launch) (dC : Nat → ClassId) (dI : Nat → Nat → Nat) (ka : Nat → ClassId) (h dr db lg fa : Nat) (fr fb : Nat → Nat) (pg pn us di : Nat → Int32) (bt : Nat → Nat → Int32) (dk : Nat → Int32) (lf wn rd en fl hd : Int32) (x y : Int32) (n : Nat) (ex : x = nI n) (hn : n < 12) (he : ¬ pg n = -1) : Met l yB_look wB_look ({ frames := 2, cells := 0, slots := 0, locals := 41 }) (va_Pc [.ref h, .int x, .int y] (fun U => tk_E dC dI ka U ∧ va_P (dC, dI) clB (dw h dr db lg fa fr fb ka pg pn us di bt dk lf wn rd en fl hd) U.heap)) (vp_Si (fun r => r = lookV pg pn us di bt n y)) 0 0 (fun _ => False) := by
  refine Met.ofW (cc := cB_look) (maxL := 3) (ret := (some .int)) (by decide) rfl ?_
  intro p e s m args below meth c s₁ B hml hv
  obtain ⟨rfl, hE, hP⟩ := hv
  have hx := B.exec
  have hb := B.bytes
  have hr := B.returns
  have hts := atoms_spec (ws := wB_look) B.pre
  have hq : ∀ w ∈ lwg, w.before _ s = true := fun w h => hts w (List.mem_cons_of_mem _ h)
  have hown : s.vm.findClass RB = some m.cls := findClass_of_methodNamed B.named
  have hlocks := B.notSynchronized
  have hK := hE.1
  have hN := hE.2
  have hP : va_P (dC, dI) clB (dw h dr db lg fa fr fb ka pg pn us di bt dk lf wn rd en fl hd) s.heap := hP
  have hl := lv_entry ([.ref h, .int x, .int y]) (n := 3) (Nat.le_of_ble_eq_true rfl)
  rw [lg_entry_eq]
  generalize (lg_sl ([.ref h, .int x, .int y]) ++ List.replicate (3 - (lg_sl ([.ref h, .int x, .int y])).length) Slot.unset).toArray = ls at hl ⊢
  have hl : lv_has ls 3 [(0, .ref h), (1, .int x), (2, .int y)] := hl
  refine lv_iload_n hx hb dB_look_0 rfl (lv_at hl 1 rfl) ?_
  refine vp_callSi (va_Run.run (va_runS (As := [.int x]) (rest := []) ⟨hx, hb, hml, hown, hts⟩ (c_B_isFrame l dC dI ka x) (cwS 1 hts (tw_S wi_131 wi_132 wi_24 wi_133) rfl rfl rfl (by decide +kernel) ⟨Nat.le_of_ble_eq_true rfl, Nat.le_of_ble_eq_true rfl⟩) ⟨fun a U g mk q => ⟨q.1, tk_E.call q.2.1, q.2.2⟩, fun U hU hW => ⟨rfl, tk_E.warm hW hE, by rw [hU]; exact (fun k q h => by simp at h)⟩⟩ rfl rfl hl.1 rfl (lv_room (Nat.le_of_ble_eq_true rfl)) dB_look_1 ⟨Nat.zero_le _, Nat.zero_le _⟩)) (fun r_1 er_1 => ?_)
  replace er_1 := er_1.trans (tk_is1 (N := 12) ex hn (by decide))
  subst er_1
  refine lv_if_eq (tgt := 19) hx hb dB_look_4 (by decide) (fun c_2 => ?_) (fun c_2 => ?_)
  · exact absurd c_2 (by decide)
  · refine lv_aload_n hx hb dB_look_7 rfl (lv_at hl 0 rfl) ?_
    refine va_get (D := (dC, dI)) (ci := 3) (v := .ref fa) (C := RB) (T := TB) (N := 4) hx hb hts (inC inB) hown hK hP 0 rfl rfl 2 (by decide) (hq _ wi_116) (fun _ h9 => h9) rfl dB_look_8 ?_
    refine lv_iload_n hx hb dB_look_11 rfl (lv_at hl 1 rfl) ?_
    refine tk_aald (n := n) (y := fr n) hx hb hK hP 4 1 rfl rfl ex hn (by decide) rfl dB_look_12 ?_
    refine vp_callSi (va_Run.run (va_runV (As := []) (rest := []) ⟨hx, hb, hml, hown, hts⟩ (c_F_isEmpty l dC dI ka (fr n) (fb n) (pg n) (pn n) (us n) (di n)) (cwV 0 hts (tw_V wi_149 wi_150 wi_151 wi_27 wi_152) rfl rfl rfl (by decide +kernel) ⟨Nat.le_of_ble_eq_true rfl, Nat.le_of_ble_eq_true rfl⟩) ⟨fun a U g mk q => ⟨q.1, tk_E.call q.2.1, q.2.2⟩, va_recv hK hP (ci := 1) (q0 := (5 + n)) rfl (dw_fr hn), fun U hU hW => ⟨rfl, tk_E.warm hW hE, by rw [hU]; exact (tk_one hP (k := 5 + n) (dw_fr hn))⟩⟩ rfl rfl hl.1 rfl (lv_room (Nat.le_of_ble_eq_true rfl)) dB_look_13 ⟨Nat.zero_le _, Nat.zero_le _⟩)) (fun r_3 er_3 => ?_)
    replace er_3 := er_3.trans (if_neg he)
    subst er_3
    refine lv_if_eq (tgt := 21) hx hb dB_look_16 (by decide) (fun c_4 => ?_) (fun c_4 => ?_)
    · refine lv_iload_n hx hb dB_look_21 rfl (lv_at hl 2 rfl) ?_
      by_cases c_5 : y = 0
      · refine lv_tableIn (off := 34) (tgt := 56) hx hb dB_look_22 (by rw [c_5]; decide) (by rw [c_5]; decide) (by rw [c_5]; rfl) (by decide) ?_
        refine lv_aload_n hx hb dB_look_56 rfl (lv_at hl 0 rfl) ?_
        refine va_get (D := (dC, dI)) (ci := 3) (v := .ref fa) (C := RB) (T := TB) (N := 4) hx hb hts (inC inB) hown hK hP 0 rfl rfl 2 (by decide) (hq _ wi_116) (fun _ h9 => h9) rfl dB_look_57 ?_
        refine lv_iload_n hx hb dB_look_60 rfl (lv_at hl 1 rfl) ?_
        refine tk_aald (n := n) (y := fr n) hx hb hK hP 4 1 rfl rfl ex hn (by decide) rfl dB_look_61 ?_
        refine va_getN (D := (dC, dI)) (ci := 1) (v := .int (pg n)) (C := RF) (T := TF) (N := 5) hx hb hts (inC inF) hown hK hP (5 + n) (dw_fr hn) rfl 1 (by decide) (va_Nw.use rfl (hN _ ns_9)) (fun _ h9 => h9) rfl dB_look_62 ?_
        exact W.iret (v := (pg n)) hx hb hr (fun t ht hW => ⟨(pg n), rfl, (by simp [lookV, c_2, c_4, c_5]), ht⟩) (fun _ h => by cases h) dB_look_65
      by_cases c_6 : y = 1
      · refine lv_tableIn (off := 44) (tgt := 66) hx hb dB_look_22 (by rw [c_6]; decide) (by rw [c_6]; decide) (by rw [c_6]; rfl) (by decide) ?_
        refine lv_aload_n hx hb dB_look_66 rfl (lv_at hl 0 rfl) ?_
        refine va_get (D := (dC, dI)) (ci := 3) (v := .ref fa) (C := RB) (T := TB) (N := 4) hx hb hts (inC inB) hown hK hP 0 rfl rfl 2 (by decide) (hq _ wi_116) (fun _ h9 => h9) rfl dB_look_67 ?_
        refine lv_iload_n hx hb dB_look_70 rfl (lv_at hl 1 rfl) ?_
        refine tk_aald (n := n) (y := fr n) hx hb hK hP 4 1 rfl rfl ex hn (by decide) rfl dB_look_71 ?_
        refine va_getN (D := (dC, dI)) (ci := 1) (v := .int (pn n)) (C := RF) (T := TF) (N := 5) hx hb hts (inC inF) hown hK hP (5 + n) (dw_fr hn) rfl 2 (by decide) (va_Nw.use rfl (hN _ ns_10)) (fun _ h9 => h9) rfl dB_look_72 ?_
        exact W.iret (v := (pn n)) hx hb hr (fun t ht hW => ⟨(pn n), rfl, (by simp [lookV, c_2, c_4, c_5, c_6]), ht⟩) (fun _ h => by cases h) dB_look_75
      by_cases c_7 : y = 2
      · refine lv_tableIn (off := 54) (tgt := 76) hx hb dB_look_22 (by rw [c_7]; decide) (by rw [c_7]; decide) (by rw [c_7]; rfl) (by decide) ?_
        refine lv_aload_n hx hb dB_look_76 rfl (lv_at hl 0 rfl) ?_
        refine va_get (D := (dC, dI)) (ci := 3) (v := .ref fa) (C := RB) (T := TB) (N := 4) hx hb hts (inC inB) hown hK hP 0 rfl rfl 2 (by decide) (hq _ wi_116) (fun _ h9 => h9) rfl dB_look_77 ?_
        refine lv_iload_n hx hb dB_look_80 rfl (lv_at hl 1 rfl) ?_
        refine tk_aald (n := n) (y := fr n) hx hb hK hP 4 1 rfl rfl ex hn (by decide) rfl dB_look_81 ?_
        refine va_getN (D := (dC, dI)) (ci := 1) (v := .int (us n)) (C := RF) (T := TF) (N := 5) hx hb hts (inC inF) hown hK hP (5 + n) (dw_fr hn) rfl 3 (by decide) (va_Nw.use rfl (hN _ ns_11)) (fun _ h9 => h9) rfl dB_look_82 ?_
        exact W.iret (v := (us n)) hx hb hr (fun t ht hW => ⟨(us n), rfl, (by simp [lookV, c_2, c_4, c_5, c_6, c_7]), ht⟩) (fun _ h => by cases h) dB_look_85
      by_cases c_8 : y = 3
      · refine lv_tableIn (off := 64) (tgt := 86) hx hb dB_look_22 (by rw [c_8]; decide) (by rw [c_8]; decide) (by rw [c_8]; rfl) (by decide) ?_
        refine lv_aload_n hx hb dB_look_86 rfl (lv_at hl 0 rfl) ?_
        refine va_get (D := (dC, dI)) (ci := 3) (v := .ref fa) (C := RB) (T := TB) (N := 4) hx hb hts (inC inB) hown hK hP 0 rfl rfl 2 (by decide) (hq _ wi_116) (fun _ h9 => h9) rfl dB_look_87 ?_
        refine lv_iload_n hx hb dB_look_90 rfl (lv_at hl 1 rfl) ?_
        refine tk_aald (n := n) (y := fr n) hx hb hK hP 4 1 rfl rfl ex hn (by decide) rfl dB_look_91 ?_
        refine va_getN (D := (dC, dI)) (ci := 1) (v := .int (di n)) (C := RF) (T := TF) (N := 5) hx hb hts (inC inF) hown hK hP (5 + n) (dw_fr hn) rfl 4 (by decide) (va_Nw.use rfl (hN _ ns_12)) (fun _ h9 => h9) rfl dB_look_92 ?_
        refine lv_if_eq (tgt := 102) hx hb dB_look_95 (by decide) (fun c_9 => ?_) (fun c_9 => ?_)
        · refine lv_iconst (v := 0) hx hb dB_look_102 (by decide) ?_
          exact W.iret (v := 0) hx hb hr (fun t ht hW => ⟨0, rfl, (by simp [lookV, c_2, c_4, c_5, c_6, c_7, c_8, c_9]), ht⟩) (fun _ h => by cases h) dB_look_103
        · refine lv_iconst (v := 1) hx hb dB_look_98 (by decide) ?_
          refine lv_goto (tgt := 103) hx hb dB_look_99 (by decide) ?_
          exact W.iret (v := 1) hx hb hr (fun t ht hW => ⟨1, rfl, (by simp [lookV, c_2, c_4, c_5, c_6, c_7, c_8, c_9]), ht⟩) (fun _ h => by cases h) dB_look_103
      by_cases c_10 : y = 4
      · refine lv_tableIn (off := 82) (tgt := 104) hx hb dB_look_22 (by rw [c_10]; decide) (by rw [c_10]; decide) (by rw [c_10]; rfl) (by decide) ?_
        refine lv_aload_n hx hb dB_look_104 rfl (lv_at hl 0 rfl) ?_
        refine va_get (D := (dC, dI)) (ci := 3) (v := .ref fa) (C := RB) (T := TB) (N := 4) hx hb hts (inC inB) hown hK hP 0 rfl rfl 2 (by decide) (hq _ wi_116) (fun _ h9 => h9) rfl dB_look_105 ?_
        refine lv_iload_n hx hb dB_look_108 rfl (lv_at hl 1 rfl) ?_
        refine tk_aald (n := n) (y := fr n) hx hb hK hP 4 1 rfl rfl ex hn (by decide) rfl dB_look_109 ?_
        refine vp_callSi (va_Run.run (va_runV (As := []) (rest := []) ⟨hx, hb, hml, hown, hts⟩ (c_F_place l dC dI ka (fr n) (fb n) (pg n) (pn n) (us n) (di n) (bt n)) (cwV 0 hts (tw_V wi_157 wi_158 wi_159 wi_27 wi_160) rfl rfl rfl (by decide +kernel) ⟨Nat.le_of_ble_eq_true rfl, Nat.le_of_ble_eq_true rfl⟩) ⟨fun a U g mk q => ⟨q.1, tk_E.call q.2.1, q.2.2⟩, va_recv hK hP (ci := 1) (q0 := (5 + n)) rfl (dw_fr hn), fun U hU hW => ⟨rfl, tk_E.warm hW hE, by rw [hU]; exact (tk_two hP (k := 5 + n) (k' := 17 + n) (dw_fr hn) (dw_fb hn))⟩⟩ rfl rfl hl.1 rfl (lv_room (Nat.le_of_ble_eq_true rfl)) dB_look_110 ⟨Nat.zero_le _, Nat.zero_le _⟩)) (fun r_11 er_11 => ?_)
        subst er_11
        exact W.iret (v := (plB (bt n))) hx hb hr (fun t ht hW => ⟨(plB (bt n)), rfl, (by simp [lookV, c_2, c_4, c_5, c_6, c_7, c_8, c_10]), ht⟩) (fun _ h => by cases h) dB_look_113
      refine lv_tableOut (tgt := 114) hx hb dB_look_22 (tk_out5 c_5 c_6 c_7 c_8 c_10) (by decide) ?_
      refine lv_iconst (v := (-1)) hx hb dB_look_114 (by decide) ?_
      exact W.iret (v := (-1)) hx hb hr (fun t ht hW => ⟨(-1), rfl, (by simp [lookV, c_2, c_4, c_5, c_6, c_7, c_8, c_10]), ht⟩) (fun _ h => by cases h) dB_look_115
    · exact absurd c_4 (by decide)

set_option maxHeartbeats 4000000 in
set_option maxRecDepth 100000 in
theorem c_B_count (l : Launch) (dC : Nat → ClassId) (dI : Nat → Nat → Nat) (ka : Nat → ClassId) (h dr db lg fa : Nat) (fr fb : Nat → Nat) (pg pn us di : Nat → Int32) (bt : Nat → Nat → Int32) (dk : Nat → Int32) (lf wn rd en fl hd : Int32) (y : Int32) : Met l yB_count wB_count ({ frames := 2, cells := 0, slots := 0, locals := 42 }) (va_Pc [.ref h, .int y] (fun U => tk_E dC dI ka U ∧ va_P (dC, dI) clB (dw h dr db lg fa fr fb ka pg pn us di bt dk lf wn rd en fl hd) U.heap)) (vp_Si (fun r => r = countV pg wn rd en fl hd y)) 0 0 (fun _ => False) := by
  refine Met.ofW (cc := cB_count) (maxL := 2) (ret := (some .int)) (by decide) rfl ?_
  intro p e s m args below meth c s₁ B hml hv
  obtain ⟨rfl, hE, hP⟩ := hv
  have hx := B.exec
  have hb := B.bytes
  have hr := B.returns
  have hts := atoms_spec (ws := wB_count) B.pre
  have hq : ∀ w ∈ lwg, w.before _ s = true := fun w h => hts w (List.mem_cons_of_mem _ h)
  have hown : s.vm.findClass RB = some m.cls := findClass_of_methodNamed B.named
  have hlocks := B.notSynchronized
  have hK := hE.1
  have hN := hE.2
  have hP : va_P (dC, dI) clB (dw h dr db lg fa fr fb ka pg pn us di bt dk lf wn rd en fl hd) s.heap := hP
  have hl := lv_entry ([.ref h, .int y]) (n := 2) (Nat.le_of_ble_eq_true rfl)
  rw [lg_entry_eq]
  generalize (lg_sl ([.ref h, .int y]) ++ List.replicate (2 - (lg_sl ([.ref h, .int y])).length) Slot.unset).toArray = ls at hl ⊢
  have hl : lv_has ls 2 [(0, .ref h), (1, .int y)] := hl
  refine lv_iload_n hx hb dB_count_0 rfl (lv_at hl 1 rfl) ?_
  by_cases c_1 : y = 0
  · refine lv_tableIn (off := 39) (tgt := 40) hx hb dB_count_1 (by rw [c_1]; decide) (by rw [c_1]; decide) (by rw [c_1]; rfl) (by decide) ?_
    refine lv_aload_n hx hb dB_count_40 rfl (lv_at hl 0 rfl) ?_
    refine va_get (D := (dC, dI)) (ci := 3) (v := .int hd) (C := RB) (T := TB) (N := 4) hx hb hts (inC inB) hown hK hP 0 rfl rfl 3 (by decide) (hq _ wi_117) (fun _ h9 => h9) rfl dB_count_41 ?_
    exact W.iret (v := hd) hx hb hr (fun t ht hW => ⟨hd, rfl, (by simp [countV, c_1]), ht⟩) (fun _ h => by cases h) dB_count_44
  by_cases c_2 : y = 1
  · refine lv_tableIn (off := 44) (tgt := 45) hx hb dB_count_1 (by rw [c_2]; decide) (by rw [c_2]; decide) (by rw [c_2]; rfl) (by decide) ?_
    refine lv_aload_n hx hb dB_count_45 rfl (lv_at hl 0 rfl) ?_
    refine va_get (D := (dC, dI)) (ci := 3) (v := .ref dr) (C := RB) (T := TB) (N := 4) hx hb hts (inC inB) hown hK hP 0 rfl rfl 0 (by decide) (hq _ wi_114) (fun _ h9 => h9) rfl dB_count_46 ?_
    refine va_getN (D := (dC, dI)) (ci := 0) (v := .int rd) (C := RD) (T := TD) (N := 4) hx hb hts (inC inD) hown hK hP 1 rfl rfl 3 (by decide) (va_Nw.use rfl (hN _ ns_3)) (fun _ h9 => h9) rfl dB_count_49 ?_
    exact W.iret (v := rd) hx hb hr (fun t ht hW => ⟨rd, rfl, (by simp [countV, c_1, c_2]), ht⟩) (fun _ h => by cases h) dB_count_52
  by_cases c_3 : y = 2
  · refine lv_tableIn (off := 52) (tgt := 53) hx hb dB_count_1 (by rw [c_3]; decide) (by rw [c_3]; decide) (by rw [c_3]; rfl) (by decide) ?_
    refine lv_aload_n hx hb dB_count_53 rfl (lv_at hl 0 rfl) ?_
    refine va_get (D := (dC, dI)) (ci := 3) (v := .ref dr) (C := RB) (T := TB) (N := 4) hx hb hts (inC inB) hown hK hP 0 rfl rfl 0 (by decide) (hq _ wi_114) (fun _ h9 => h9) rfl dB_count_54 ?_
    refine va_getN (D := (dC, dI)) (ci := 0) (v := .int wn) (C := RD) (T := TD) (N := 4) hx hb hts (inC inD) hown hK hP 1 rfl rfl 2 (by decide) (va_Nw.use rfl (hN _ ns_2)) (fun _ h9 => h9) rfl dB_count_57 ?_
    exact W.iret (v := wn) hx hb hr (fun t ht hW => ⟨wn, rfl, (by simp [countV, c_1, c_2, c_3]), ht⟩) (fun _ h => by cases h) dB_count_60
  by_cases c_4 : y = 3
  · refine lv_tableIn (off := 60) (tgt := 61) hx hb dB_count_1 (by rw [c_4]; decide) (by rw [c_4]; decide) (by rw [c_4]; rfl) (by decide) ?_
    refine lv_aload_n hx hb dB_count_61 rfl (lv_at hl 0 rfl) ?_
    refine va_get (D := (dC, dI)) (ci := 3) (v := .ref lg) (C := RB) (T := TB) (N := 4) hx hb hts (inC inB) hown hK hP 0 rfl rfl 1 (by decide) (hq _ wi_115) (fun _ h9 => h9) rfl dB_count_62 ?_
    refine va_getN (D := (dC, dI)) (ci := 2) (v := .int en) (C := RG) (T := TG) (N := 2) hx hb hts (inC inG) hown hK hP 3 rfl rfl 0 (by decide) (va_Nw.use rfl (hN _ ns_5)) (fun _ h9 => h9) rfl dB_count_65 ?_
    exact W.iret (v := en) hx hb hr (fun t ht hW => ⟨en, rfl, (by simp [countV, c_1, c_2, c_3, c_4]), ht⟩) (fun _ h => by cases h) dB_count_68
  by_cases c_5 : y = 4
  · refine lv_tableIn (off := 68) (tgt := 69) hx hb dB_count_1 (by rw [c_5]; decide) (by rw [c_5]; decide) (by rw [c_5]; rfl) (by decide) ?_
    refine lv_aload_n hx hb dB_count_69 rfl (lv_at hl 0 rfl) ?_
    refine va_get (D := (dC, dI)) (ci := 3) (v := .ref lg) (C := RB) (T := TB) (N := 4) hx hb hts (inC inB) hown hK hP 0 rfl rfl 1 (by decide) (hq _ wi_115) (fun _ h9 => h9) rfl dB_count_70 ?_
    refine va_getN (D := (dC, dI)) (ci := 2) (v := .int fl) (C := RG) (T := TG) (N := 2) hx hb hts (inC inG) hown hK hP 3 rfl rfl 1 (by decide) (va_Nw.use rfl (hN _ ns_6)) (fun _ h9 => h9) rfl dB_count_73 ?_
    exact W.iret (v := fl) hx hb hr (fun t ht hW => ⟨fl, rfl, (by simp [countV, c_1, c_2, c_3, c_4, c_5]), ht⟩) (fun _ h => by cases h) dB_count_76
  by_cases c_6 : y = 5
  · refine lv_tableIn (off := 76) (tgt := 77) hx hb dB_count_1 (by rw [c_6]; decide) (by rw [c_6]; decide) (by rw [c_6]; rfl) (by decide) ?_
    refine lv_aload_n hx hb dB_count_77 rfl (lv_at hl 0 rfl) ?_
    refine vp_callSi (va_Run.run (va_runV (As := []) (rest := []) ⟨hx, hb, hml, hown, hts⟩ (c_B_framesWithPages l dC dI ka h dr db lg fa fr fb pg pn us di bt dk lf wn rd en fl hd ) (cwV 0 hts (tw_V wi_208 wi_210 wi_0 wi_24 wi_211) rfl rfl rfl (by decide +kernel) ⟨Nat.le_of_ble_eq_true rfl, Nat.le_of_ble_eq_true rfl⟩) ⟨fun a U g mk q => ⟨q.1, tk_E.call q.2.1, q.2.2⟩, va_recv hK hP (ci := 3) (q0 := 0) rfl rfl, fun U hU hW => ⟨rfl, tk_E.warm hW hE, by rw [hU]; exact hP⟩⟩ rfl rfl hl.1 rfl (lv_room (Nat.le_of_ble_eq_true rfl)) dB_count_78 ⟨Nat.zero_le _, Nat.zero_le _⟩)) (fun r_7 er_7 => ?_)
    subst er_7
    exact W.iret (v := (nI (cntP pg 12))) hx hb hr (fun t ht hW => ⟨(nI (cntP pg 12)), rfl, (by simp [countV, c_1, c_2, c_3, c_4, c_5, c_6]), ht⟩) (fun _ h => by cases h) dB_count_81
  refine lv_tableOut (tgt := 82) hx hb dB_count_1 (tk_out6 c_1 c_2 c_3 c_4 c_5 c_6) (by decide) ?_
  refine lv_iconst (v := (-1)) hx hb dB_count_82 (by decide) ?_
  exact W.iret (v := (-1)) hx hb hr (fun t ht hW => ⟨(-1), rfl, (by simp [countV, c_1, c_2, c_3, c_4, c_5, c_6]), ht⟩) (fun _ h => by cases h) dB_count_83

set_option maxHeartbeats 4000000 in
set_option maxRecDepth 100000 in
theorem c_B_flushed (l : Launch) (dC : Nat → ClassId) (dI : Nat → Nat → Nat) (ka : Nat → ClassId) (sz : Nat) (h dr db lg fa : Nat) (fr fb : Nat → Nat) (pg pn us di : Nat → Int32) (bt : Nat → Nat → Int32) (dk : Nat → Int32) (lf wn rd en fl hd : Int32) (x : Int32) : Met l yB_flushed wB_flushed ({ frames := 1, cells := 0, slots := 0, locals := 21 }) (va_Pc [.ref h, .int x] (fun U => U.heap.size = sz ∧ tk_E dC dI ka U ∧ va_P (dC, dI) clB (dw h dr db lg fa fr fb ka pg pn us di bt dk lf wn rd en fl hd) U.heap ∧ va_D (fun _ => True) (dw h dr db lg fa fr fb ka pg pn us di bt dk lf wn rd en fl hd))) (va_Qi (fun (r : Int32) (_ : Unit) => r = if en < x then 1 else 0) (fun _ t => va_P (dC, dI) clB (dw h dr db lg fa fr fb ka pg pn us di bt dk lf wn rd (if en < x then x else en) fl hd) t.heap) (va_A (dw h dr db lg fa fr fb ka pg pn us di bt dk lf wn rd en fl hd) sz)) 0 0 (va_A (dw h dr db lg fa fr fb ka pg pn us di bt dk lf wn rd en fl hd) sz) := by
  refine Met.ofW (cc := cB_flushed) (maxL := 2) (ret := (some .boolean)) (by decide) rfl ?_
  intro p e s m args below meth c s₁ B hml hv
  obtain ⟨rfl, hsz, hE, hP, hD0⟩ := hv
  have hx := B.exec
  have hb := B.bytes
  have hr := B.returns
  have hts := atoms_spec (ws := wB_flushed) B.pre
  have hq : ∀ w ∈ lwg, w.before _ s = true := fun w h => hts w (List.mem_cons_of_mem _ h)
  have hown : s.vm.findClass RB = some m.cls := findClass_of_methodNamed B.named
  have hlocks := B.notSynchronized
  have hK := hE.1
  have hN := hE.2
  subst hsz
  have hD := hD0.self (sz := s.heap.size)
  generalize hAe : va_A (dw h dr db lg fa fr fb ka pg pn us di bt dk lf wn rd en fl hd) s.heap.size = A at hD ⊢
  have hA : ∀ q : Nat, s.heap.size ≤ q → A q := fun q h => by rw [← hAe]; exact Or.inr h
  have hS : va_S A s.heap s.heap [] := va_S.rf
  have hDw := hD
  have hP : va_P (dC, dI) clB (dw h dr db lg fa fr fb ka pg pn us di bt dk lf wn rd en fl hd) s.heap := hP
  have hl := lv_entry ([.ref h, .int x]) (n := 2) (Nat.le_of_ble_eq_true rfl)
  rw [lg_entry_eq]
  generalize (lg_sl ([.ref h, .int x]) ++ List.replicate (2 - (lg_sl ([.ref h, .int x])).length) Slot.unset).toArray = ls at hl ⊢
  have hl : lv_has ls 2 [(0, .ref h), (1, .int x)] := hl
  refine lv_aload_n hx hb dB_flushed_0 rfl (lv_at hl 0 rfl) ?_
  refine va_get (D := (dC, dI)) (ci := 3) (v := .ref lg) (C := RB) (T := TB) (N := 4) hx hb hts (inC inB) hown hK hP 0 rfl rfl 1 (by decide) (hq _ wi_115) (fun _ h9 => h9) rfl dB_flushed_1 ?_
  refine lv_iload_n hx hb dB_flushed_4 rfl (lv_at hl 1 rfl) ?_
  have hFc := tk_free1 (k := 3) hD hS hA rfl
  refine va_calli (va_runV (As := [.int x]) (rest := []) ⟨hx, hb, hml, hown, hts⟩ (c_G_advance l dC dI ka _ lg en fl x) (cwV 1 hts (tw_V wi_172 wi_173 wi_174 wi_26 wi_175) rfl rfl rfl (by decide +kernel) ⟨Nat.le_of_ble_eq_true rfl, Nat.le_of_ble_eq_true rfl⟩) ⟨fun a U g mk q => ⟨q.1, q.2.1, tk_E.call q.2.2.1, q.2.2.2⟩, va_recv hK hP (ci := 2) (q0 := 3) rfl rfl, fun U hU hW => ⟨rfl, by rw [hU], tk_E.warm hW hE, by rw [hU]; exact (tk_one hP (k := 3) rfl), tk_done⟩⟩ rfl rfl hl.1 rfl (lv_room (Nat.le_of_ble_eq_true rfl)) dB_flushed_5 ⟨Nat.zero_le _, Nat.zero_le _⟩) hS (fun q _ h => hFc q h) hFc (fun r_2 u_1 t H1 locs ht hvm hw hB hz1 hk1 hS => ?_)
  have hB : va_P (dC, dI) clB [(lg, .inr (2, [.int (if en < x then x else en), .int fl]))] H1 := by rw [← ht]; exact hB
  obtain ⟨hP, hD⟩ := tk_join1 (k := 3) hP hD rfl hk1 hB
  generalize H1 = H at hP hS ⊢
  have hP : va_P (dC, dI) clB (dw h dr db lg fa fr fb ka pg pn us di bt dk lf wn rd (if en < x then x else en) fl hd) H := (show va_P _ _ _ H from hP)
  have hD : va_D A (dw h dr db lg fa fr fb ka pg pn us di bt dk lf wn rd (if en < x then x else en) fl hd) := dw_D hDw
  subst hw
  exact W.zret (v := (if en < x then 1 else 0)) (ty := .boolean) hx hb hr (by by_cases hz : en < x <;> simp [hz] <;> rfl) (fun t ht hW => ⟨⟨(if en < x then 1 else 0), (), rfl, rfl, by show va_P _ _ _ t.heap; rw [ht]; exact hP⟩, hS.F ht⟩) hS.2.2 dB_flushed_8

set_option maxHeartbeats 4000000 in
set_option maxRecDepth 100000 in
theorem c_B_unpin_f0 (l : Launch) (dC : Nat → ClassId) (dI : Nat → Nat → Nat) (ka : Nat → ClassId) (sz : Nat) (h dr db lg fa : Nat) (fr fb : Nat → Nat) (pg pn us di : Nat → Int32) (bt : Nat → Nat → Int32) (dk : Nat → Int32) (lf wn rd en fl hd : Int32) (x : Int32) (hx0 : x < 0 ∨ nI 12 ≤ x) : Met l yB_unpin wB_unpin ({ frames := 1, cells := 0, slots := 0, locals := 20 }) (va_Pc [.ref h, .int x] (fun U => U.heap.size = sz ∧ tk_E dC dI ka U ∧ va_P (dC, dI) clB (dw h dr db lg fa fr fb ka pg pn us di bt dk lf wn rd en fl hd) U.heap ∧ va_D (fun _ => True) (dw h dr db lg fa fr fb ka pg pn us di bt dk lf wn rd en fl hd))) (va_Qi (fun (r : Int32) (_ : Unit) => r = 0) (fun _ t => va_P (dC, dI) clB (dw h dr db lg fa fr fb ka pg pn us di bt dk lf wn rd en fl hd) t.heap) (va_A (dw h dr db lg fa fr fb ka pg pn us di bt dk lf wn rd en fl hd) sz)) 0 0 (va_A (dw h dr db lg fa fr fb ka pg pn us di bt dk lf wn rd en fl hd) sz) := by
  refine Met.ofW (cc := cB_unpin) (maxL := 2) (ret := (some .boolean)) (by decide) rfl ?_
  intro p e s m args below meth c s₁ B hml hv
  obtain ⟨rfl, hsz, hE, hP, hD0⟩ := hv
  have hx := B.exec
  have hb := B.bytes
  have hr := B.returns
  have hts := atoms_spec (ws := wB_unpin) B.pre
  have hq : ∀ w ∈ lwg, w.before _ s = true := fun w h => hts w (List.mem_cons_of_mem _ h)
  have hown : s.vm.findClass RB = some m.cls := findClass_of_methodNamed B.named
  have hlocks := B.notSynchronized
  have hK := hE.1
  have hN := hE.2
  subst hsz
  have hD := hD0.self (sz := s.heap.size)
  generalize hAe : va_A (dw h dr db lg fa fr fb ka pg pn us di bt dk lf wn rd en fl hd) s.heap.size = A at hD ⊢
  have hA : ∀ q : Nat, s.heap.size ≤ q → A q := fun q h => by rw [← hAe]; exact Or.inr h
  have hS : va_S A s.heap s.heap [] := va_S.rf
  have hDw := hD
  have hP : va_P (dC, dI) clB (dw h dr db lg fa fr fb ka pg pn us di bt dk lf wn rd en fl hd) s.heap := hP
  have hl := lv_entry ([.ref h, .int x]) (n := 2) (Nat.le_of_ble_eq_true rfl)
  rw [lg_entry_eq]
  generalize (lg_sl ([.ref h, .int x]) ++ List.replicate (2 - (lg_sl ([.ref h, .int x])).length) Slot.unset).toArray = ls at hl ⊢
  have hl : lv_has ls 2 [(0, .ref h), (1, .int x)] := hl
  refine lv_iload_n hx hb dB_unpin_0 rfl (lv_at hl 1 rfl) ?_
  refine vp_callSi (va_Run.run (va_runS (As := [.int x]) (rest := []) ⟨hx, hb, hml, hown, hts⟩ (c_B_isFrame l dC dI ka x) (cwS 1 hts (tw_S wi_131 wi_132 wi_24 wi_133) rfl rfl rfl (by decide +kernel) ⟨Nat.le_of_ble_eq_true rfl, Nat.le_of_ble_eq_true rfl⟩) ⟨fun a U g mk q => ⟨q.1, tk_E.call q.2.1, q.2.2⟩, fun U hU hW => ⟨rfl, tk_E.warm hW hE, by rw [hU]; exact (fun k q h => by simp at h)⟩⟩ rfl rfl hl.1 rfl (lv_room (Nat.le_of_ble_eq_true rfl)) dB_unpin_1 ⟨Nat.zero_le _, Nat.zero_le _⟩)) (fun r_1 er_1 => ?_)
  replace er_1 := er_1.trans (tk_is0 (N := 12) hx0)
  subst er_1
  refine lv_if_eq (tgt := 19) hx hb dB_unpin_4 (by decide) (fun c_2 => ?_) (fun c_2 => ?_)
  · refine lv_iconst (v := 0) hx hb dB_unpin_19 (by decide) ?_
    exact W.zret (v := 0) (ty := .boolean) hx hb hr rfl (fun t ht hW => ⟨⟨0, (), rfl, rfl, by show va_P _ _ _ t.heap; rw [ht]; exact hP⟩, hS.F ht⟩) hS.2.2 dB_unpin_20
  · exact absurd c_2 (by decide)

set_option maxHeartbeats 4000000 in
set_option maxRecDepth 100000 in
theorem c_B_unpin_n0 (l : Launch) (dC : Nat → ClassId) (dI : Nat → Nat → Nat) (ka : Nat → ClassId) (sz : Nat) (h dr db lg fa : Nat) (fr fb : Nat → Nat) (pg pn us di : Nat → Int32) (bt : Nat → Nat → Int32) (dk : Nat → Int32) (lf wn rd en fl hd : Int32) (x : Int32) (n : Nat) (ex : x = nI n) (hn : n < 12) (hp : pn n ≤ 0) : Met l yB_unpin wB_unpin ({ frames := 1, cells := 0, slots := 0, locals := 20 }) (va_Pc [.ref h, .int x] (fun U => U.heap.size = sz ∧ tk_E dC dI ka U ∧ va_P (dC, dI) clB (dw h dr db lg fa fr fb ka pg pn us di bt dk lf wn rd en fl hd) U.heap ∧ va_D (fun _ => True) (dw h dr db lg fa fr fb ka pg pn us di bt dk lf wn rd en fl hd))) (va_Qi (fun (r : Int32) (_ : Unit) => r = 0) (fun _ t => va_P (dC, dI) clB (dw h dr db lg fa fr fb ka pg pn us di bt dk lf wn rd en fl hd) t.heap) (va_A (dw h dr db lg fa fr fb ka pg pn us di bt dk lf wn rd en fl hd) sz)) 0 0 (va_A (dw h dr db lg fa fr fb ka pg pn us di bt dk lf wn rd en fl hd) sz) := by
  refine Met.ofW (cc := cB_unpin) (maxL := 2) (ret := (some .boolean)) (by decide) rfl ?_
  intro p e s m args below meth c s₁ B hml hv
  obtain ⟨rfl, hsz, hE, hP, hD0⟩ := hv
  have hx := B.exec
  have hb := B.bytes
  have hr := B.returns
  have hts := atoms_spec (ws := wB_unpin) B.pre
  have hq : ∀ w ∈ lwg, w.before _ s = true := fun w h => hts w (List.mem_cons_of_mem _ h)
  have hown : s.vm.findClass RB = some m.cls := findClass_of_methodNamed B.named
  have hlocks := B.notSynchronized
  have hK := hE.1
  have hN := hE.2
  subst hsz
  have hD := hD0.self (sz := s.heap.size)
  generalize hAe : va_A (dw h dr db lg fa fr fb ka pg pn us di bt dk lf wn rd en fl hd) s.heap.size = A at hD ⊢
  have hA : ∀ q : Nat, s.heap.size ≤ q → A q := fun q h => by rw [← hAe]; exact Or.inr h
  have hS : va_S A s.heap s.heap [] := va_S.rf
  have hDw := hD
  have hP : va_P (dC, dI) clB (dw h dr db lg fa fr fb ka pg pn us di bt dk lf wn rd en fl hd) s.heap := hP
  have hl := lv_entry ([.ref h, .int x]) (n := 2) (Nat.le_of_ble_eq_true rfl)
  rw [lg_entry_eq]
  generalize (lg_sl ([.ref h, .int x]) ++ List.replicate (2 - (lg_sl ([.ref h, .int x])).length) Slot.unset).toArray = ls at hl ⊢
  have hl : lv_has ls 2 [(0, .ref h), (1, .int x)] := hl
  refine lv_iload_n hx hb dB_unpin_0 rfl (lv_at hl 1 rfl) ?_
  refine vp_callSi (va_Run.run (va_runS (As := [.int x]) (rest := []) ⟨hx, hb, hml, hown, hts⟩ (c_B_isFrame l dC dI ka x) (cwS 1 hts (tw_S wi_131 wi_132 wi_24 wi_133) rfl rfl rfl (by decide +kernel) ⟨Nat.le_of_ble_eq_true rfl, Nat.le_of_ble_eq_true rfl⟩) ⟨fun a U g mk q => ⟨q.1, tk_E.call q.2.1, q.2.2⟩, fun U hU hW => ⟨rfl, tk_E.warm hW hE, by rw [hU]; exact (fun k q h => by simp at h)⟩⟩ rfl rfl hl.1 rfl (lv_room (Nat.le_of_ble_eq_true rfl)) dB_unpin_1 ⟨Nat.zero_le _, Nat.zero_le _⟩)) (fun r_1 er_1 => ?_)
  replace er_1 := er_1.trans (tk_is1 (N := 12) ex hn (by decide))
  subst er_1
  refine lv_if_eq (tgt := 19) hx hb dB_unpin_4 (by decide) (fun c_2 => ?_) (fun c_2 => ?_)
  · exact absurd c_2 (by decide)
  · refine lv_aload_n hx hb dB_unpin_7 rfl (lv_at hl 0 rfl) ?_
    refine va_get (D := (dC, dI)) (ci := 3) (v := .ref fa) (C := RB) (T := TB) (N := 4) hx hb hts (inC inB) hown hK hP 0 rfl rfl 2 (by decide) (hq _ wi_116) (fun _ h9 => h9) rfl dB_unpin_8 ?_
    refine lv_iload_n hx hb dB_unpin_11 rfl (lv_at hl 1 rfl) ?_
    refine tk_aald (n := n) (y := fr n) hx hb hK hP 4 1 rfl rfl ex hn (by decide) rfl dB_unpin_12 ?_
    refine vp_callSi (va_Run.run (va_runV (As := []) (rest := []) ⟨hx, hb, hml, hown, hts⟩ (c_F_hasPins l dC dI ka (fr n) (fb n) (pg n) (pn n) (us n) (di n)) (cwV 0 hts (tw_V wi_134 wi_135 wi_136 wi_27 wi_137) rfl rfl rfl (by decide +kernel) ⟨Nat.le_of_ble_eq_true rfl, Nat.le_of_ble_eq_true rfl⟩) ⟨fun a U g mk q => ⟨q.1, tk_E.call q.2.1, q.2.2⟩, va_recv hK hP (ci := 1) (q0 := (5 + n)) rfl (dw_fr hn), fun U hU hW => ⟨rfl, tk_E.warm hW hE, by rw [hU]; exact (tk_one hP (k := 5 + n) (dw_fr hn))⟩⟩ rfl rfl hl.1 rfl (lv_room (Nat.le_of_ble_eq_true rfl)) dB_unpin_13 ⟨Nat.zero_le _, Nat.zero_le _⟩)) (fun r_3 er_3 => ?_)
    replace er_3 := er_3.trans (if_pos hp)
    subst er_3
    refine lv_if_ne (tgt := 21) hx hb dB_unpin_16 (by decide) (fun c_4 => ?_) (fun c_4 => ?_)
    · exact absurd c_4 (by decide)
    · refine lv_iconst (v := 0) hx hb dB_unpin_19 (by decide) ?_
      exact W.zret (v := 0) (ty := .boolean) hx hb hr rfl (fun t ht hW => ⟨⟨0, (), rfl, rfl, by show va_P _ _ _ t.heap; rw [ht]; exact hP⟩, hS.F ht⟩) hS.2.2 dB_unpin_20

set_option maxHeartbeats 4000000 in
set_option maxRecDepth 100000 in
theorem c_B_unpin_in (l : Launch) (dC : Nat → ClassId) (dI : Nat → Nat → Nat) (ka : Nat → ClassId) (sz : Nat) (h dr db lg fa : Nat) (fr fb : Nat → Nat) (pg pn us di : Nat → Int32) (bt : Nat → Nat → Int32) (dk : Nat → Int32) (lf wn rd en fl hd : Int32) (x : Int32) (n : Nat) (ex : x = nI n) (hn : n < 12) (hp : ¬ pn n ≤ 0) : Met l yB_unpin wB_unpin ({ frames := 1, cells := 0, slots := 0, locals := 20 }) (va_Pc [.ref h, .int x] (fun U => U.heap.size = sz ∧ tk_E dC dI ka U ∧ va_P (dC, dI) clB (dw h dr db lg fa fr fb ka pg pn us di bt dk lf wn rd en fl hd) U.heap ∧ va_D (fun _ => True) (dw h dr db lg fa fr fb ka pg pn us di bt dk lf wn rd en fl hd))) (va_Qi (fun (r : Int32) (_ : Unit) => r = 1) (fun _ t => va_P (dC, dI) clB (dw h dr db lg fa fr fb ka pg (upd pn n (pn n - 1)) us di bt dk lf wn rd en fl hd) t.heap) (va_A (dw h dr db lg fa fr fb ka pg pn us di bt dk lf wn rd en fl hd) sz)) 0 0 (va_A (dw h dr db lg fa fr fb ka pg pn us di bt dk lf wn rd en fl hd) sz) := by
  refine Met.ofW (cc := cB_unpin) (maxL := 2) (ret := (some .boolean)) (by decide) rfl ?_
  intro p e s m args below meth c s₁ B hml hv
  obtain ⟨rfl, hsz, hE, hP, hD0⟩ := hv
  have hx := B.exec
  have hb := B.bytes
  have hr := B.returns
  have hts := atoms_spec (ws := wB_unpin) B.pre
  have hq : ∀ w ∈ lwg, w.before _ s = true := fun w h => hts w (List.mem_cons_of_mem _ h)
  have hown : s.vm.findClass RB = some m.cls := findClass_of_methodNamed B.named
  have hlocks := B.notSynchronized
  have hK := hE.1
  have hN := hE.2
  subst hsz
  have hD := hD0.self (sz := s.heap.size)
  generalize hAe : va_A (dw h dr db lg fa fr fb ka pg pn us di bt dk lf wn rd en fl hd) s.heap.size = A at hD ⊢
  have hA : ∀ q : Nat, s.heap.size ≤ q → A q := fun q h => by rw [← hAe]; exact Or.inr h
  have hS : va_S A s.heap s.heap [] := va_S.rf
  have hDw := hD
  have hP : va_P (dC, dI) clB (dw h dr db lg fa fr fb ka pg pn us di bt dk lf wn rd en fl hd) s.heap := hP
  have hl := lv_entry ([.ref h, .int x]) (n := 2) (Nat.le_of_ble_eq_true rfl)
  rw [lg_entry_eq]
  generalize (lg_sl ([.ref h, .int x]) ++ List.replicate (2 - (lg_sl ([.ref h, .int x])).length) Slot.unset).toArray = ls at hl ⊢
  have hl : lv_has ls 2 [(0, .ref h), (1, .int x)] := hl
  refine lv_iload_n hx hb dB_unpin_0 rfl (lv_at hl 1 rfl) ?_
  refine vp_callSi (va_Run.run (va_runS (As := [.int x]) (rest := []) ⟨hx, hb, hml, hown, hts⟩ (c_B_isFrame l dC dI ka x) (cwS 1 hts (tw_S wi_131 wi_132 wi_24 wi_133) rfl rfl rfl (by decide +kernel) ⟨Nat.le_of_ble_eq_true rfl, Nat.le_of_ble_eq_true rfl⟩) ⟨fun a U g mk q => ⟨q.1, tk_E.call q.2.1, q.2.2⟩, fun U hU hW => ⟨rfl, tk_E.warm hW hE, by rw [hU]; exact (fun k q h => by simp at h)⟩⟩ rfl rfl hl.1 rfl (lv_room (Nat.le_of_ble_eq_true rfl)) dB_unpin_1 ⟨Nat.zero_le _, Nat.zero_le _⟩)) (fun r_1 er_1 => ?_)
  replace er_1 := er_1.trans (tk_is1 (N := 12) ex hn (by decide))
  subst er_1
  refine lv_if_eq (tgt := 19) hx hb dB_unpin_4 (by decide) (fun c_2 => ?_) (fun c_2 => ?_)
  · exact absurd c_2 (by decide)
  · refine lv_aload_n hx hb dB_unpin_7 rfl (lv_at hl 0 rfl) ?_
    refine va_get (D := (dC, dI)) (ci := 3) (v := .ref fa) (C := RB) (T := TB) (N := 4) hx hb hts (inC inB) hown hK hP 0 rfl rfl 2 (by decide) (hq _ wi_116) (fun _ h9 => h9) rfl dB_unpin_8 ?_
    refine lv_iload_n hx hb dB_unpin_11 rfl (lv_at hl 1 rfl) ?_
    refine tk_aald (n := n) (y := fr n) hx hb hK hP 4 1 rfl rfl ex hn (by decide) rfl dB_unpin_12 ?_
    refine vp_callSi (va_Run.run (va_runV (As := []) (rest := []) ⟨hx, hb, hml, hown, hts⟩ (c_F_hasPins l dC dI ka (fr n) (fb n) (pg n) (pn n) (us n) (di n)) (cwV 0 hts (tw_V wi_134 wi_135 wi_136 wi_27 wi_137) rfl rfl rfl (by decide +kernel) ⟨Nat.le_of_ble_eq_true rfl, Nat.le_of_ble_eq_true rfl⟩) ⟨fun a U g mk q => ⟨q.1, tk_E.call q.2.1, q.2.2⟩, va_recv hK hP (ci := 1) (q0 := (5 + n)) rfl (dw_fr hn), fun U hU hW => ⟨rfl, tk_E.warm hW hE, by rw [hU]; exact (tk_one hP (k := 5 + n) (dw_fr hn))⟩⟩ rfl rfl hl.1 rfl (lv_room (Nat.le_of_ble_eq_true rfl)) dB_unpin_13 ⟨Nat.zero_le _, Nat.zero_le _⟩)) (fun r_3 er_3 => ?_)
    replace er_3 := er_3.trans (if_neg hp)
    subst er_3
    refine lv_if_ne (tgt := 21) hx hb dB_unpin_16 (by decide) (fun c_4 => ?_) (fun c_4 => ?_)
    · refine lv_aload_n hx hb dB_unpin_21 rfl (lv_at hl 0 rfl) ?_
      refine va_get (D := (dC, dI)) (ci := 3) (v := .ref fa) (C := RB) (T := TB) (N := 4) hx hb hts (inC inB) hown hK hP 0 rfl rfl 2 (by decide) (hq _ wi_116) (fun _ h9 => h9) rfl dB_unpin_22 ?_
      refine lv_iload_n hx hb dB_unpin_25 rfl (lv_at hl 1 rfl) ?_
      refine tk_aald (n := n) (y := fr n) hx hb hK hP 4 1 rfl rfl ex hn (by decide) rfl dB_unpin_26 ?_
      have hFc := tk_free1 (k := 5 + n) hD hS hA (dw_fr hn)
      refine va_callv (va_runV (As := []) (rest := []) ⟨hx, hb, hml, hown, hts⟩ (c_F_dropPin l dC dI ka _ (fr n) (fb n) (pg n) (pn n) (us n) (di n)) (cwV 0 hts (tw_V wi_138 wi_139 wi_140 wi_27 wi_141) rfl rfl rfl (by decide +kernel) ⟨Nat.le_of_ble_eq_true rfl, Nat.le_of_ble_eq_true rfl⟩) ⟨fun a U g mk q => ⟨q.1, q.2.1, tk_E.call q.2.2.1, q.2.2.2⟩, va_recv hK hP (ci := 1) (q0 := (5 + n)) rfl (dw_fr hn), fun U hU hW => ⟨rfl, by rw [hU], tk_E.warm hW hE, by rw [hU]; exact (tk_one hP (k := 5 + n) (dw_fr hn)), tk_done⟩⟩ rfl rfl hl.1 rfl (lv_room (Nat.le_of_ble_eq_true rfl)) dB_unpin_27 ⟨Nat.zero_le _, Nat.zero_le _⟩) hS (fun q _ h => hFc q h) hFc (fun u_5 t H1 locs ht hvm hw hB hz1 hk1 hS => ?_)
      have hB : va_P (dC, dI) clB [((fr n), .inr (1, [.ref (fb n), .int (pg n), .int ((pn n) - 1), .int (us n), .int (di n)]))] H1 := by rw [← ht]; exact hB
      obtain ⟨hP, hD⟩ := tk_join1 (k := 5 + n) hP hD (dw_fr hn) hk1 hB
      generalize H1 = H at hP hS ⊢
      have hP : va_P (dC, dI) clB (dw h dr db lg fa fr fb ka pg (upd pn n ((pn n) - 1)) us di bt dk lf wn rd en fl hd) H := (by rw [← dw_set_p hn]; exact hP)
      have hD : va_D A (dw h dr db lg fa fr fb ka pg (upd pn n ((pn n) - 1)) us di bt dk lf wn rd en fl hd) := dw_D hDw
      refine lv_iconst (v := 1) hx hb dB_unpin_30 (by decide) ?_
      exact W.zret (v := 1) (ty := .boolean) hx hb hr rfl (fun t ht hW => ⟨⟨1, (), rfl, rfl, by show va_P _ _ _ t.heap; rw [ht]; exact hP⟩, hS.F ht⟩) hS.2.2 dB_unpin_31
    · exact absurd c_4 (by decide)
