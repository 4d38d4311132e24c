theorem tk_ix {x : Int32} (N : Nat) (hN : N < 2 ^ 31) : (x < 0 ∨ nI N ≤ x) ∨ ∃ n : Nat, n < N ∧ x = nI n := by
  rcases pk_ix x hN with h | h | ⟨j, h1, h2⟩
  · exact Or.inl (Or.inl h)
  · exact Or.inl (Or.inr h)
  · exact Or.inr ⟨j, h1, h2⟩
theorem tk_is1 {x : Int32} {n N : Nat} (ex : x = nI n) (hn : n < N) (hN : N < 2 ^ 31) : (if x < 0 then (0 : Int32) else if nI N ≤ x then 0 else 1) = 1 := by
  rw [if_neg (by rw [ex]; exact nI_pos (by omega)), if_neg (by rw [ex]; exact nI_ge hn hN)]
theorem tk_is0 {x : Int32} {N : Nat} (h : x < 0 ∨ nI N ≤ x) : (if x < 0 then (0 : Int32) else if nI N ≤ x then 0 else 1) = 0 := by
  by_cases h1 : x < 0
  · rw [if_pos h1]
  · rw [if_neg h1, if_pos (h.resolve_left h1)]
/-- the lowest frame that has the page x, or -1 -/
def fwR (pg : Nat → Int32) (x r : Int32) : Prop := (r = -1 ∧ ∀ i, i < 12 → pg i ≠ x) ∨ ∃ i, i < 12 ∧ r = nI i ∧ pg i = x ∧ ∀ j, j < i → pg j ≠ x
theorem fwR_step {pg : Nat → Int32} {x r : Int32} (h : fwR pg x r) {i : Nat} (hi : i < 12) (he : ∀ j, j < i → pg j ≠ x) (hx : pg i = x) : r = nI i := by
  rcases h with ⟨-, h⟩ | ⟨k, hk, hr, hp, hm⟩
  · exact absurd hx (h i hi)
  · rcases Nat.lt_trichotomy i k with g | g | g
    · exact absurd hx (hm i g)
    · rw [hr, g]
    · exact absurd hp (he k g)
theorem fwR_none {pg : Nat → Int32} {x r : Int32} (h : fwR pg x r) (he : ∀ j, j < 12 → pg j ≠ x) : r = -1 := by
  rcases h with ⟨h, -⟩ | ⟨k, hk, -, hp, -⟩
  · exact h
  · exact absurd hp (he k hk)

set_option maxHeartbeats 4000000 in
set_option maxRecDepth 100000 in
theorem c_B_frameWith (l : Launch) (dC : Nat → ClassId) (dI : Nat → Nat → Nat) (ka : Nat → ClassId) (h dr db lg fa : Nat) (fr fb : Nat → Nat) (pg pn us di : Nat → Int32) (bt : Nat → Nat → Int32) (dk : Nat → Int32) (lf wn rd en fl hd : Int32) (x r0 : Int32) (hr0 : fwR pg x r0) : Met l yB_frameWith wB_frameWith ({ frames := 0, cells := 0, slots := 0, locals := 0 }) (va_Pc [.ref h, .int x] (fun U => tk_E dC dI ka U ∧ va_P (dC, dI) clB (dw h dr db lg fa fr fb ka pg pn us di bt dk lf wn rd en fl hd) U.heap)) (vp_Si (fun r => r = r0)) 0 0 (fun _ => False) := by
  refine Met.ofW (cc := cB_frameWith) (maxL := 3) (ret := (some .int)) (by decide) rfl ?_
  intro p e s m args below meth c s₁ B hml hv
  obtain ⟨rfl, hE, hP⟩ := hv
  have hx := B.exec
  have hb := B.bytes
  have hr := B.returns
  have hts := atoms_spec (ws := wB_frameWith) B.pre
  have hq : ∀ w ∈ lwg, w.before _ s = true := fun w h => hts w (List.mem_cons_of_mem _ h)
  have hown : s.vm.findClass RB = some m.cls := findClass_of_methodNamed B.named
  have hlocks := B.notSynchronized
  have hK := hE.1
  have hN := hE.2
  have hP : va_P (dC, dI) clB (dw h dr db lg fa fr fb ka pg pn us di bt dk lf wn rd en fl hd) s.heap := hP
  have hl := lv_entry ([.ref h, .int x]) (n := 3) (Nat.le_of_ble_eq_true rfl)
  rw [lg_entry_eq]
  generalize (lg_sl ([.ref h, .int x]) ++ List.replicate (3 - (lg_sl ([.ref h, .int x])).length) Slot.unset).toArray = ls at hl ⊢
  have hl : lv_has ls 3 [(0, .ref h), (1, .int x)] := hl
  refine lv_iconst (v := 0) hx hb dB_frameWith_0 (by decide) ?_
  refine lv_istore_n (lv' := [(2, .int 0), (0, .ref h), (1, .int x)]) hx hb dB_frameWith_1 rfl hl (by decide) rfl (fun ls hl => ?_)
  refine tk_loop 2 (fun (n : Nat) (z : Nat) H locs ls => (H = s.heap) ∧ (locs = []) ∧ (z ≤ 12) ∧ (n = 12 - z) ∧ (∀ j, j < z → pg j ≠ x) ∧ va_P (dC, dI) clB (dw h dr db lg fa fr fb ka pg pn us di bt dk lf wn rd en fl hd) H ∧ lv_has ls 3 [(0, .ref h), (1, .int x), (2, .int (nI z))]) ?_ 12 0 ⟨rfl, rfl, (by decide), rfl, (fun j h => absurd h (Nat.not_lt_zero j)), hP, lv_sub hl [1, 2, 0] rfl⟩
  skip
  intro n z H locs ls hI ih
  obtain ⟨rfl, rfl, hi, hn, he, hP, hl⟩ := hI
  refine lv_iload_n hx hb dB_frameWith_2 rfl (lv_at hl 2 rfl) ?_
  refine lv_bipush (v := 12) hx hb dB_frameWith_3 (by decide) ?_
  refine lv_icmp_ge (tgt := 29) hx hb dB_frameWith_5 (by decide) (fun c_1 => ?_) (fun c_1 => ?_)
  · refine lv_iconst (v := (-1)) hx hb dB_frameWith_29 (by decide) ?_
    exact W.iret (v := (-1)) hx hb hr (fun t ht hW => ⟨(-1), rfl, (fwR_none hr0 (fun j hj => he j (by have := (nI_leI (a := 12) (b := z) (by decide) (by omega)).mp c_1; omega))).symm, ht⟩) (fun _ h => by cases h) dB_frameWith_30
  · have hz : z < 12 := by have := mt (nI_leI (a := 12) (b := z) (by decide) (by omega)).mpr c_1; omega
    refine lv_aload_n hx hb dB_frameWith_8 rfl (lv_at hl 0 rfl) ?_
    refine va_get (D := (dC, dI)) (ci := 3) (v := .ref fa) (C := RB) (T := TB) (N := 4) hx hb hts (inC inB) hown hK hP 0 rfl rfl 2 (by decide) (hq _ wi_116) (fun _ h9 => h9) rfl dB_frameWith_9 ?_
    refine lv_iload_n hx hb dB_frameWith_12 rfl (lv_at hl 2 rfl) ?_
    refine tk_aald (n := z) (y := fr z) hx hb hK hP 4 1 rfl rfl rfl hz (by decide) rfl dB_frameWith_13 ?_
    refine va_getN (D := (dC, dI)) (ci := 1) (v := .int (pg z)) (C := RF) (T := TF) (N := 5) hx hb hts (inC inF) hown hK hP (5 + z) (dw_fr hz) rfl 1 (by decide) (va_Nw.use rfl (hN _ ns_9)) (fun _ h9 => h9) rfl dB_frameWith_14 ?_
    refine lv_iload_n hx hb dB_frameWith_17 rfl (lv_at hl 1 rfl) ?_
    refine lv_icmp_ne (tgt := 23) hx hb dB_frameWith_18 (by decide) (fun c_2 => ?_) (fun c_2 => ?_)
    · refine lv_iinc (v := ((nI z) + 1)) (lv' := [(2, .int ((nI z) + 1)), (0, .ref h), (1, .int x)]) hx hb dB_frameWith_23 hl (k := 2) rfl rfl (by decide) rfl (fun ls hl => ?_)
      refine lv_goto (tgt := 2) hx hb dB_frameWith_26 (by decide) ?_
      exact ih (n - 1) (z + 1) _ _ _ (by omega) ⟨rfl, rfl, by omega, by omega, (fun j h => by rcases Nat.lt_or_ge j z with g | g; exact he j g; rw [show j = z by omega]; exact c_2), hP, lv_sub hl [1, 2, 0] (by rw [← nI_1]; rfl)⟩
    · refine lv_iload_n hx hb dB_frameWith_21 rfl (lv_at hl 2 rfl) ?_
      exact W.iret (v := (nI z)) hx hb hr (fun t ht hW => ⟨(nI z), rfl, (fwR_step hr0 hz he c_2).symm, ht⟩) (fun _ h => by cases h) dB_frameWith_22

/-- whether all frames have pins -/
def ahR (pn : Nat → Int32) (r : Int32) : Prop := (r = 1 ∧ ∀ i, i < 12 → ¬ pn i ≤ 0) ∨ (r = 0 ∧ ∃ i, i < 12 ∧ pn i ≤ 0)
theorem ahR_no {pn : Nat → Int32} {r : Int32} (h : ahR pn r) {i : Nat} (hi : i < 12) (hp : pn i ≤ 0) : r = 0 := by
  rcases h with ⟨-, h⟩ | ⟨h, -⟩
  · exact absurd hp (h i hi)
  · exact h
theorem ahR_yes {pn : Nat → Int32} {r : Int32} (h : ahR pn r) (he : ∀ i, i < 12 → ¬ pn i ≤ 0) : r = 1 := by
  rcases h with ⟨h, -⟩ | ⟨-, i, hi, hp⟩
  · exact h
  · exact absurd hp (he i hi)
theorem tk_b1 {c : Prop} [Decidable c] (h : ¬ (if c then (0 : Int32) else 1) = 0) : ¬ c := fun hc => h (if_pos hc)
theorem tk_b0 {c : Prop} [Decidable c] (h : (if c then (0 : Int32) else 1) = 0) : c := by
  by_cases hc : c
  · exact hc
  · rw [if_neg hc] at h; exact absurd h (by decide)
theorem tk_c1 {c : Prop} [Decidable c] (h : ¬ (if c then (1 : Int32) else 0) = 0) : c := by
  by_cases hc : c
  · exact hc
  · rw [if_neg hc] at h; exact absurd rfl h
theorem tk_c0 {c : Prop} [Decidable c] (h : (if c then (1 : Int32) else 0) = 0) : ¬ c := fun hc => by rw [if_pos hc] at h; exact absurd h (by decide)

set_option maxHeartbeats 4000000 in
set_option maxRecDepth 100000 in
theorem c_B_allHavePins (l : Launch) (dC : Nat → ClassId) (dI : Nat → Nat → Nat) (ka : Nat → ClassId) (h dr db lg fa : Nat) (fr fb : Nat → Nat) (pg pn us di : Nat → Int32) (bt : Nat → Nat → Int32) (dk : Nat → Int32) (lf wn rd en fl hd : Int32) (r0 : Int32) (hr0 : ahR pn r0) : Met l yB_allHavePins wB_allHavePins ({ frames := 1, cells := 0, slots := 0, locals := 20 }) (va_Pc [.ref h] (fun U => tk_E dC dI ka U ∧ va_P (dC, dI) clB (dw h dr db lg fa fr fb ka pg pn us di bt dk lf wn rd en fl hd) U.heap)) (vp_Si (fun r => r = r0)) 0 0 (fun _ => False) := by
  refine Met.ofW (cc := cB_allHavePins) (maxL := 2) (ret := (some .boolean)) (by decide) rfl ?_
  intro p e s m args below meth c s₁ B hml hv
  obtain ⟨rfl, hE, hP⟩ := hv
  have hx := B.exec
  have hb := B.bytes
  have hr := B.returns
  have hts := atoms_spec (ws := wB_allHavePins) B.pre
  have hq : ∀ w ∈ lwg, w.before _ s = true := fun w h => hts w (List.mem_cons_of_mem _ h)
  have hown : s.vm.findClass RB = some m.cls := findClass_of_methodNamed B.named
  have hlocks := B.notSynchronized
  have hK := hE.1
  have hN := hE.2
  have hP : va_P (dC, dI) clB (dw h dr db lg fa fr fb ka pg pn us di bt dk lf wn rd en fl hd) s.heap := hP
  have hl := lv_entry ([.ref h]) (n := 2) (Nat.le_of_ble_eq_true rfl)
  rw [lg_entry_eq]
  generalize (lg_sl ([.ref h]) ++ List.replicate (2 - (lg_sl ([.ref h])).length) Slot.unset).toArray = ls at hl ⊢
  have hl : lv_has ls 2 [(0, .ref h)] := hl
  refine lv_iconst (v := 0) hx hb dB_allHavePins_0 (by decide) ?_
  refine lv_istore_n (lv' := [(1, .int 0), (0, .ref h)]) hx hb dB_allHavePins_1 rfl hl (by decide) rfl (fun ls hl => ?_)
  refine tk_loop 2 (fun (n : Nat) (z : Nat) H locs ls => (H = s.heap) ∧ (locs = []) ∧ (z ≤ 12) ∧ (n = 12 - z) ∧ (∀ j, j < z → ¬ pn j ≤ 0) ∧ va_P (dC, dI) clB (dw h dr db lg fa fr fb ka pg pn us di bt dk lf wn rd en fl hd) H ∧ lv_has ls 2 [(0, .ref h), (1, .int (nI z))]) ?_ 12 0 ⟨rfl, rfl, (by decide), rfl, (fun j h => absurd h (Nat.not_lt_zero j)), hP, lv_sub hl [1, 0] rfl⟩
  skip
  intro n z H locs ls hI ih
  obtain ⟨rfl, rfl, hi, hn, he, hP, hl⟩ := hI
  refine lv_iload_n hx hb dB_allHavePins_2 rfl (lv_at hl 1 rfl) ?_
  refine lv_bipush (v := 12) hx hb dB_allHavePins_3 (by decide) ?_
  refine lv_icmp_ge (tgt := 28) hx hb dB_allHavePins_5 (by decide) (fun c_1 => ?_) (fun c_1 => ?_)
  · refine lv_iconst (v := 1) hx hb dB_allHavePins_28 (by decide) ?_
    exact W.zret (v := 1) (ty := .boolean) hx hb hr rfl (fun t ht hW => ⟨1, rfl, (ahR_yes hr0 (fun j hj => he j (by have := (nI_leI (a := 12) (b := z) (by decide) (by omega)).mp c_1; omega))).symm, ht⟩) (fun _ h => by cases h) dB_allHavePins_29
  · have hz : z < 12 := by have := mt (nI_leI (a := 12) (b := z) (by decide) (by omega)).mpr c_1; omega
    refine lv_aload_n hx hb dB_allHavePins_8 rfl (lv_at hl 0 rfl) ?_
    refine va_get (D := (dC, dI)) (ci := 3) (v := .ref fa) (C := RB) (T := TB) (N := 4) hx hb hts (inC inB) hown hK hP 0 rfl rfl 2 (by decide) (hq _ wi_116) (fun _ h9 => h9) rfl dB_allHavePins_9 ?_
    refine lv_iload_n hx hb dB_allHavePins_12 rfl (lv_at hl 1 rfl) ?_
    refine tk_aald (n := z) (y := fr z) hx hb hK hP 4 1 rfl rfl rfl hz (by decide) rfl dB_allHavePins_13 ?_
    refine vp_callSi (va_Run.run (va_runV (As := []) (rest := []) ⟨hx, hb, hml, hown, hts⟩ (c_F_hasPins l dC dI ka (fr z) (fb z) (pg z) (pn z) (us z) (di z)) (cwV 0 hts (tw_V wi_134 wi_135 wi_136 wi_27 wi_137) rfl rfl rfl (by decide +kernel) ⟨Nat.le_of_ble_eq_true rfl, Nat.le_of_ble_eq_true rfl⟩) ⟨fun a U g mk q => ⟨q.1, tk_E.call q.2.1, q.2.2⟩, va_recv hK hP (ci := 1) (q0 := (5 + z)) rfl (dw_fr hz), fun U hU hW => ⟨rfl, tk_E.warm hW hE, by rw [hU]; exact (tk_one hP (k := 5 + z) (dw_fr hz))⟩⟩ rfl rfl hl.1 rfl (lv_room (Nat.le_of_ble_eq_true rfl)) dB_allHavePins_14 ⟨Nat.zero_le _, Nat.zero_le _⟩)) (fun r_2 er_2 => ?_)
    subst er_2
    refine lv_if_ne (tgt := 22) hx hb dB_allHavePins_17 (by decide) (fun c_3 => ?_) (fun c_3 => ?_)
    · refine lv_iinc (v := ((nI z) + 1)) (lv' := [(1, .int ((nI z) + 1)), (0, .ref h)]) hx hb dB_allHavePins_22 hl (k := 1) rfl rfl (by decide) rfl (fun ls hl => ?_)
      refine lv_goto (tgt := 2) hx hb dB_allHavePins_25 (by decide) ?_
      exact ih (n - 1) (z + 1) _ _ _ (by omega) ⟨rfl, rfl, by omega, by omega, (fun j h => by rcases Nat.lt_or_ge j z with g | g; exact he j g; rw [show j = z by omega]; exact tk_b1 c_3), hP, lv_sub hl [1, 0] (by rw [← nI_1]; rfl)⟩
    · refine lv_iconst (v := 0) hx hb dB_allHavePins_20 (by decide) ?_
      exact W.zret (v := 0) (ty := .boolean) hx hb hr rfl (fun t ht hW => ⟨0, rfl, (ahR_no hr0 hz (tk_b0 c_3)).symm, ht⟩) (fun _ h => by cases h) dB_allHavePins_21

/-- how many frames below z have a page -/
def cntP (pg : Nat → Int32) : Nat → Nat
  | 0 => 0
  | z + 1 => cntP pg z + if pg z = -1 then 0 else 1
theorem cntP_le (pg : Nat → Int32) (z : Nat) : cntP pg z ≤ z := by
  induction z with
  | zero => exact Nat.le_refl 0
  | succ z ih => simp only [cntP]; split <;> omega

set_option maxHeartbeats 4000000 in
set_option maxRecDepth 100000 in
theorem c_B_framesWithPages (l : Launch) (dC : Nat → ClassId) (dI : Nat → Nat → Nat) (ka : Nat → ClassId) (h dr db lg fa : Nat) (fr fb : Nat → Nat) (pg pn us di : Nat → Int32) (bt : Nat → Nat → Int32) (dk : Nat → Int32) (lf wn rd en fl hd : Int32) : Met l yB_framesWithPages wB_framesWithPages ({ frames := 1, cells := 0, slots := 0, locals := 20 }) (va_Pc [.ref h] (fun U => tk_E dC dI ka U ∧ va_P (dC, dI) clB (dw h dr db lg fa fr fb ka pg pn us di bt dk lf wn rd en fl hd) U.heap)) (vp_Si (fun r => r = nI (cntP pg 12))) 0 0 (fun _ => False) := by
  refine Met.ofW (cc := cB_framesWithPages) (maxL := 3) (ret := (some .int)) (by decide) rfl ?_
  intro p e s m args below meth c s₁ B hml hv
  obtain ⟨rfl, hE, hP⟩ := hv
  have hx := B.exec
  have hb := B.bytes
  have hr := B.returns
  have hts := atoms_spec (ws := wB_framesWithPages) B.pre
  have hq : ∀ w ∈ lwg, w.before _ s = true := fun w h => hts w (List.mem_cons_of_mem _ h)
  have hown : s.vm.findClass RB = some m.cls := findClass_of_methodNamed B.named
  have hlocks := B.notSynchronized
  have hK := hE.1
  have hN := hE.2
  have hP : va_P (dC, dI) clB (dw h dr db lg fa fr fb ka pg pn us di bt dk lf wn rd en fl hd) s.heap := hP
  have hl := lv_entry ([.ref h]) (n := 3) (Nat.le_of_ble_eq_true rfl)
  rw [lg_entry_eq]
  generalize (lg_sl ([.ref h]) ++ List.replicate (3 - (lg_sl ([.ref h])).length) Slot.unset).toArray = ls at hl ⊢
  have hl : lv_has ls 3 [(0, .ref h)] := hl
  refine lv_iconst (v := 0) hx hb dB_framesWithPages_0 (by decide) ?_
  refine lv_istore_n (lv' := [(1, .int 0), (0, .ref h)]) hx hb dB_framesWithPages_1 rfl hl (by decide) rfl (fun ls hl => ?_)
  refine lv_iconst (v := 0) hx hb dB_framesWithPages_2 (by decide) ?_
  refine lv_istore_n (lv' := [(2, .int 0), (1, .int 0), (0, .ref h)]) hx hb dB_framesWithPages_3 rfl hl (by decide) rfl (fun ls hl => ?_)
  refine tk_loop 4 (fun (n : Nat) (z : Nat) H locs ls => (H = s.heap) ∧ (locs = []) ∧ (z ≤ 12) ∧ (n = 12 - z) ∧ va_P (dC, dI) clB (dw h dr db lg fa fr fb ka pg pn us di bt dk lf wn rd en fl hd) H ∧ lv_has ls 3 [(0, .ref h), (1, .int (nI (cntP pg z))), (2, .int (nI z))]) ?_ 12 0 ⟨rfl, rfl, (by decide), rfl, hP, lv_sub hl [2, 1, 0] rfl⟩
  skip
  intro n z H locs ls hI ih
  obtain ⟨rfl, rfl, hi, hn, hP, hl⟩ := hI
  refine lv_iload_n hx hb dB_framesWithPages_4 rfl (lv_at hl 2 rfl) ?_
  refine lv_bipush (v := 12) hx hb dB_framesWithPages_5 (by decide) ?_
  refine lv_icmp_ge (tgt := 31) hx hb dB_framesWithPages_7 (by decide) (fun c_1 => ?_) (fun c_1 => ?_)
  · refine lv_iload_n hx hb dB_framesWithPages_31 rfl (lv_at hl 1 rfl) ?_
    exact W.iret (v := (nI (cntP pg z))) hx hb hr (fun t ht hW => ⟨(nI (cntP pg z)), rfl, (by rw [show z = 12 by (have := (nI_leI (a := 12) (b := z) (by decide) (by omega)).mp c_1; omega)]), ht⟩) (fun _ h => by cases h) dB_framesWithPages_32
  · have hz : z < 12 := by have := mt (nI_leI (a := 12) (b := z) (by decide) (by omega)).mpr c_1; omega
    refine lv_aload_n hx hb dB_framesWithPages_10 rfl (lv_at hl 0 rfl) ?_
    refine va_get (D := (dC, dI)) (ci := 3) (v := .ref fa) (C := RB) (T := TB) (N := 4) hx hb hts (inC inB) hown hK hP 0 rfl rfl 2 (by decide) (hq _ wi_116) (fun _ h9 => h9) rfl dB_framesWithPages_11 ?_
    refine lv_iload_n hx hb dB_framesWithPages_14 rfl (lv_at hl 2 rfl) ?_
    refine tk_aald (n := z) (y := fr z) hx hb hK hP 4 1 rfl rfl rfl hz (by decide) rfl dB_framesWithPages_15 ?_
    refine vp_callSi (va_Run.run (va_runV (As := []) (rest := []) ⟨hx, hb, hml, hown, hts⟩ (c_F_isEmpty l dC dI ka (fr z) (fb z) (pg z) (pn z) (us z) (di z)) (cwV 0 hts (tw_V wi_149 wi_150 wi_151 wi_27 wi_152) rfl rfl rfl (by decide +kernel) ⟨Nat.le_of_ble_eq_true rfl, Nat.le_of_ble_eq_true rfl⟩) ⟨fun a U g mk q => ⟨q.1, tk_E.call q.2.1, q.2.2⟩, va_recv hK hP (ci := 1) (q0 := (5 + z)) rfl (dw_fr hz), fun U hU hW => ⟨rfl, tk_E.warm hW hE, by rw [hU]; exact (tk_one hP (k := 5 + z) (dw_fr hz))⟩⟩ rfl rfl hl.1 rfl (lv_room (Nat.le_of_ble_eq_true rfl)) dB_framesWithPages_16 ⟨Nat.zero_le _, Nat.zero_le _⟩)) (fun r_2 er_2 => ?_)
    subst er_2
    refine lv_if_ne (tgt := 25) hx hb dB_framesWithPages_19 (by decide) (fun c_3 => ?_) (fun c_3 => ?_)
    · refine lv_iinc (v := ((nI z) + 1)) (lv' := [(2, .int ((nI z) + 1)), (0, .ref h), (1, .int (nI (cntP pg z)))]) hx hb dB_framesWithPages_25 hl (k := 2) rfl rfl (by decide) rfl (fun ls hl => ?_)
      refine lv_goto (tgt := 4) hx hb dB_framesWithPages_28 (by decide) ?_
      exact ih (n - 1) (z + 1) _ _ _ (by omega) ⟨rfl, rfl, by omega, by omega, hP, lv_sub hl [1, 2, 0] (by rw [show cntP pg (z + 1) = cntP pg z from by simp only [cntP]; rw [if_pos (tk_c1 c_3)]; rfl, ← nI_1 z]; rfl)⟩
    · refine lv_iinc (v := ((nI (cntP pg z)) + 1)) (lv' := [(1, .int ((nI (cntP pg z)) + 1)), (0, .ref h), (2, .int (nI z))]) hx hb dB_framesWithPages_22 hl (k := 1) rfl rfl (by decide) rfl (fun ls hl => ?_)
      refine lv_iinc (v := ((nI z) + 1)) (lv' := [(2, .int ((nI z) + 1)), (1, .int ((nI (cntP pg z)) + 1)), (0, .ref h)]) hx hb dB_framesWithPages_25 hl (k := 2) rfl rfl (by decide) rfl (fun ls hl => ?_)
      refine lv_goto (tgt := 4) hx hb dB_framesWithPages_28 (by decide) ?_
      exact ih (n - 1) (z + 1) _ _ _ (by omega) ⟨rfl, rfl, by omega, by omega, hP, lv_sub hl [2, 1, 0] (by rw [show cntP pg (z + 1) = cntP pg z + 1 from by simp only [cntP]; rw [if_neg (tk_c0 c_3)], ← nI_1 z, ← nI_1 (cntP pg z)]; rfl)⟩

/-- the dirty frame of the lowest page, or -1 -/
def dlR (pg di : Nat → Int32) (z : Nat) (r : Int32) : Prop := (r = -1 ∧ ∀ i, i < z → di i = 0) ∨ ∃ i, i < z ∧ r = nI i ∧ ¬ di i = 0 ∧ (∀ j, j < z → ¬ di j = 0 → pg i ≤ pg j) ∧ ∀ j, j < i → ¬ di j = 0 → pg i < pg j
theorem dlR_0 (pg di : Nat → Int32) : dlR pg di 0 (-1) := Or.inl ⟨rfl, fun i h => absurd h (Nat.not_lt_zero i)⟩
theorem dlR_clean {pg di : Nat → Int32} {z : Nat} {r : Int32} (h : dlR pg di z r) (hd : di z = 0) : dlR pg di (z + 1) r := by
  rcases h with ⟨h1, h2⟩ | ⟨i, h1, h2, h3, h4, h5⟩
  · refine Or.inl ⟨h1, fun i hi => ?_⟩
    rcases Nat.lt_or_ge i z with g | g
    · exact h2 i g
    · rw [show i = z by omega]; exact hd
  · refine Or.inr ⟨i, by omega, h2, h3, fun j hj hdj => ?_, h5⟩
    rcases Nat.lt_or_ge j z with g | g
    · exact h4 j g hdj
    · rw [show j = z by omega] at hdj; exact absurd hd hdj
theorem dlR_first {pg di : Nat → Int32} {z : Nat} (h : dlR pg di z (-1)) (hz : z < 12) (hd : ¬ di z = 0) : dlR pg di (z + 1) (nI z) := by
  rcases h with ⟨h1, h2⟩ | ⟨i, h1, h2, h3, h4, h5⟩
  · refine Or.inr ⟨z, by omega, rfl, hd, fun j hj hdj => ?_, fun j hj hdj => absurd (h2 j hj) hdj⟩
    rcases Nat.lt_or_ge j z with g | g
    · exact absurd (h2 j g) hdj
    · rw [show j = z by omega]; exact Int32.le_refl _
  · exact absurd h2 (fun e => absurd (e ▸ nI_pos (n := i) (by omega)) (by decide))
theorem dlR_keep {pg di : Nat → Int32} {z i : Nat} (h : dlR pg di z (nI i)) (hz : z < 12) (hi : i < 12) (hp : ¬ pg z < pg i) : dlR pg di (z + 1) (nI i) := by
  rcases h with ⟨h1, h2⟩ | ⟨k, h1, h2, h3, h4, h5⟩
  · exact absurd (h1 ▸ nI_pos (n := i) (by omega)) (by decide)
  · by_cases hk : k < 2 ^ 31
    · have e : i = k := (nI_eq (by omega) hk).mp h2
      subst e
      refine Or.inr ⟨i, by omega, rfl, h3, fun j hj hdj => ?_, h5⟩
      rcases Nat.lt_or_ge j z with g | g
      · exact h4 j g hdj
      · rw [show j = z by omega]; exact Int32.not_lt.mp hp
    · omega
theorem dlR_less {pg di : Nat → Int32} {z i : Nat} (h : dlR pg di z (nI i)) (hz : z < 12) (hi : i < 12) (hd : ¬ di z = 0) (hp : pg z < pg i) : dlR pg di (z + 1) (nI z) := by
  rcases h with ⟨h1, h2⟩ | ⟨k, h1, h2, h3, h4, h5⟩
  · exact absurd (h1 ▸ nI_pos (n := i) (by omega)) (by decide)
  · have e : i = k := (nI_eq (by omega) (by omega)).mp h2
    subst e
    refine Or.inr ⟨z, by omega, rfl, hd, fun j hj hdj => ?_, fun j hj hdj => Int32.lt_of_lt_of_le hp (h4 j hj hdj)⟩
    rcases Nat.lt_or_ge j z with g | g
    · exact Int32.le_of_lt (Int32.lt_of_lt_of_le hp (h4 j g hdj))
    · rw [show j = z by omega]; exact Int32.le_refl _
/-- it is one or none -/
theorem dlR_is {pg di : Nat → Int32} {z : Nat} {r : Int32} (h : dlR pg di z r) : r = -1 ∨ ∃ i, i < z ∧ r = nI i := by
  rcases h with ⟨h1, -⟩ | ⟨i, h1, h2, -⟩
  · exact Or.inl h1
  · exact Or.inr ⟨i, h1, h2⟩

set_option maxHeartbeats 4000000 in
set_option maxRecDepth 100000 in
theorem c_B_dirtyFrameOfLowestPage (l : Launch) (dC : Nat → ClassId) (dI : Nat → Nat → Nat) (ka : Nat → ClassId) (h dr db lg fa : Nat) (fr fb : Nat → Nat) (pg pn us di : Nat → Int32) (bt : Nat → Nat → Int32) (dk : Nat → Int32) (lf wn rd en fl hd : Int32) : Met l yB_dirtyFrameOfLowestPage wB_dirtyFrameOfLowestPage ({ frames := 0, cells := 0, slots := 0, locals := 0 }) (va_Pc [.ref h] (fun U => tk_E dC dI ka U ∧ va_P (dC, dI) clB (dw h dr db lg fa fr fb ka pg pn us di bt dk lf wn rd en fl hd) U.heap)) (vp_Si (fun r => dlR pg di 12 r)) 0 0 (fun _ => False) := by
  refine Met.ofW (cc := cB_dirtyFrameOfLowestPage) (maxL := 3) (ret := (some .int)) (by decide) rfl ?_
  intro p e s m args below meth c s₁ B hml hv
  obtain ⟨rfl, hE, hP⟩ := hv
  have hx := B.exec
  have hb := B.bytes
  have hr := B.returns
  have hts := atoms_spec (ws := wB_dirtyFrameOfLowestPage) B.pre
  have hq : ∀ w ∈ lwg, w.before _ s = true := fun w h => hts w (List.mem_cons_of_mem _ h)
  have hown : s.vm.findClass RB = some m.cls := findClass_of_methodNamed B.named
  have hlocks := B.notSynchronized
  have hK := hE.1
  have hN := hE.2
  have hP : va_P (dC, dI) clB (dw h dr db lg fa fr fb ka pg pn us di bt dk lf wn rd en fl hd) s.heap := hP
  have hl := lv_entry ([.ref h]) (n := 3) (Nat.le_of_ble_eq_true rfl)
  rw [lg_entry_eq]
  generalize (lg_sl ([.ref h]) ++ List.replicate (3 - (lg_sl ([.ref h])).length) Slot.unset).toArray = ls at hl ⊢
  have hl : lv_has ls 3 [(0, .ref h)] := hl
  refine lv_iconst (v := (-1)) hx hb dB_dirtyFrameOfLowestPage_0 (by decide) ?_
  refine lv_istore_n (lv' := [(1, .int (-1)), (0, .ref h)]) hx hb dB_dirtyFrameOfLowestPage_1 rfl hl (by decide) rfl (fun ls hl => ?_)
  refine lv_iconst (v := 0) hx hb dB_dirtyFrameOfLowestPage_2 (by decide) ?_
  refine lv_istore_n (lv' := [(2, .int 0), (1, .int (-1)), (0, .ref h)]) hx hb dB_dirtyFrameOfLowestPage_3 rfl hl (by decide) rfl (fun ls hl => ?_)
  refine tk_loop 4 (fun (n : Nat) (y : Nat × Int32) H locs ls => (H = s.heap) ∧ (locs = []) ∧ (y.1 ≤ 12) ∧ (n = 12 - y.1) ∧ (dlR pg di y.1 y.2) ∧ va_P (dC, dI) clB (dw h dr db lg fa fr fb ka pg pn us di bt dk lf wn rd en fl hd) H ∧ lv_has ls 3 [(0, .ref h), (1, .int (y.2)), (2, .int (nI y.1))]) ?_ 12 (0, -1) ⟨rfl, rfl, (by decide), rfl, dlR_0 pg di, hP, lv_sub hl [2, 1, 0] rfl⟩
  skip
  intro n y H locs ls hI ih
  obtain ⟨rfl, rfl, hi, hn, hdl, hP, hl⟩ := hI
  refine lv_iload_n hx hb dB_dirtyFrameOfLowestPage_4 rfl (lv_at hl 2 rfl) ?_
  refine lv_bipush (v := 12) hx hb dB_dirtyFrameOfLowestPage_5 (by decide) ?_
  refine lv_icmp_ge (tgt := 56) hx hb dB_dirtyFrameOfLowestPage_7 (by decide) (fun c_1 => ?_) (fun c_1 => ?_)
  · refine lv_iload_n hx hb dB_dirtyFrameOfLowestPage_56 rfl (lv_at hl 1 rfl) ?_
    exact W.iret (v := y.2) hx hb hr (fun t ht hW => ⟨y.2, rfl, (by rw [show y.1 = 12 by (have := (nI_leI (a := 12) (b := y.1) (by decide) (by omega)).mp c_1; omega)] at hdl; exact hdl), ht⟩) (fun _ h => by cases h) dB_dirtyFrameOfLowestPage_57
  · have hz : y.1 < 12 := by have := mt (nI_leI (a := 12) (b := y.1) (by decide) (by omega)).mpr c_1; omega
    refine lv_aload_n hx hb dB_dirtyFrameOfLowestPage_10 rfl (lv_at hl 0 rfl) ?_
    refine va_get (D := (dC, dI)) (ci := 3) (v := .ref fa) (C := RB) (T := TB) (N := 4) hx hb hts (inC inB) hown hK hP 0 rfl rfl 2 (by decide) (hq _ wi_116) (fun _ h9 => h9) rfl dB_dirtyFrameOfLowestPage_11 ?_
    refine lv_iload_n hx hb dB_dirtyFrameOfLowestPage_14 rfl (lv_at hl 2 rfl) ?_
    refine tk_aald (n := y.1) (y := fr y.1) hx hb hK hP 4 1 rfl rfl rfl hz (by decide) rfl dB_dirtyFrameOfLowestPage_15 ?_
    refine va_getN (D := (dC, dI)) (ci := 1) (v := .int (di y.1)) (C := RF) (T := TF) (N := 5) hx hb hts (inC inF) hown hK hP (5 + y.1) (dw_fr hz) rfl 4 (by decide) (va_Nw.use rfl (hN _ ns_12)) (fun _ h9 => h9) rfl dB_dirtyFrameOfLowestPage_16 ?_
    refine lv_if_eq (tgt := 50) hx hb dB_dirtyFrameOfLowestPage_19 (by decide) (fun c_2 => ?_) (fun c_2 => ?_)
    · refine lv_iinc (v := ((nI y.1) + 1)) (lv' := [(2, .int ((nI y.1) + 1)), (0, .ref h), (1, .int (y.2))]) hx hb dB_dirtyFrameOfLowestPage_50 hl (k := 2) rfl rfl (by decide) rfl (fun ls hl => ?_)
      refine lv_goto (tgt := 4) hx hb dB_dirtyFrameOfLowestPage_53 (by decide) ?_
      exact ih (n - 1) (y.1 + 1, y.2) _ _ _ (by omega) ⟨rfl, rfl, by omega, by omega, dlR_clean hdl c_2, hP, lv_sub hl [1, 2, 0] (by rw [← nI_1 y.1]; rfl)⟩
    · refine lv_iload_n hx hb dB_dirtyFrameOfLowestPage_22 rfl (lv_at hl 1 rfl) ?_
      refine lv_iconst (v := (-1)) hx hb dB_dirtyFrameOfLowestPage_23 (by decide) ?_
      refine lv_icmp_eq (tgt := 48) hx hb dB_dirtyFrameOfLowestPage_24 (by decide) (fun c_3 => ?_) (fun c_3 => ?_)
      · refine lv_iload_n hx hb dB_dirtyFrameOfLowestPage_48 rfl (lv_at hl 2 rfl) ?_
        refine lv_istore_n (lv' := [(1, .int (nI y.1)), (0, .ref h), (2, .int (nI y.1))]) hx hb dB_dirtyFrameOfLowestPage_49 rfl hl (by decide) rfl (fun ls hl => ?_)
        refine lv_iinc (v := ((nI y.1) + 1)) (lv' := [(2, .int ((nI y.1) + 1)), (1, .int (nI y.1)), (0, .ref h)]) hx hb dB_dirtyFrameOfLowestPage_50 hl (k := 2) rfl rfl (by decide) rfl (fun ls hl => ?_)
        refine lv_goto (tgt := 4) hx hb dB_dirtyFrameOfLowestPage_53 (by decide) ?_
        exact ih (n - 1) (y.1 + 1, (nI y.1)) _ _ _ (by omega) ⟨rfl, rfl, by omega, by omega, dlR_first (c_3 ▸ hdl) hz c_2, hP, lv_sub hl [2, 1, 0] (by rw [← nI_1 y.1]; rfl)⟩
      · obtain ⟨i2, hi2, er⟩ := (dlR_is hdl).resolve_left c_3
        refine lv_aload_n hx hb dB_dirtyFrameOfLowestPage_27 rfl (lv_at hl 0 rfl) ?_
        refine va_get (D := (dC, dI)) (ci := 3) (v := .ref fa) (C := RB) (T := TB) (N := 4) hx hb hts (inC inB) hown hK hP 0 rfl rfl 2 (by decide) (hq _ wi_116) (fun _ h9 => h9) rfl dB_dirtyFrameOfLowestPage_28 ?_
        refine lv_iload_n hx hb dB_dirtyFrameOfLowestPage_31 rfl (lv_at hl 2 rfl) ?_
        refine tk_aald (n := y.1) (y := fr y.1) hx hb hK hP 4 1 rfl rfl rfl hz (by decide) rfl dB_dirtyFrameOfLowestPage_32 ?_
        refine va_getN (D := (dC, dI)) (ci := 1) (v := .int (pg y.1)) (C := RF) (T := TF) (N := 5) hx hb hts (inC inF) hown hK hP (5 + y.1) (dw_fr hz) rfl 1 (by decide) (va_Nw.use rfl (hN _ ns_9)) (fun _ h9 => h9) rfl dB_dirtyFrameOfLowestPage_33 ?_
        refine lv_aload_n hx hb dB_dirtyFrameOfLowestPage_36 rfl (lv_at hl 0 rfl) ?_
        refine va_get (D := (dC, dI)) (ci := 3) (v := .ref fa) (C := RB) (T := TB) (N := 4) hx hb hts (inC inB) hown hK hP 0 rfl rfl 2 (by decide) (hq _ wi_116) (fun _ h9 => h9) rfl dB_dirtyFrameOfLowestPage_37 ?_
        refine lv_iload_n hx hb dB_dirtyFrameOfLowestPage_40 rfl (lv_at hl 1 rfl) ?_
        refine tk_aald (n := i2) (y := fr i2) hx hb hK hP 4 1 rfl rfl er (by omega) (by decide) rfl dB_dirtyFrameOfLowestPage_41 ?_
        refine va_getN (D := (dC, dI)) (ci := 1) (v := .int (pg i2)) (C := RF) (T := TF) (N := 5) hx hb hts (inC inF) hown hK hP (5 + i2) (dw_fr (by omega)) rfl 1 (by decide) (va_Nw.use rfl (hN _ ns_9)) (fun _ h9 => h9) rfl dB_dirtyFrameOfLowestPage_42 ?_
        refine lv_icmp_ge (tgt := 50) hx hb dB_dirtyFrameOfLowestPage_45 (by decide) (fun c_4 => ?_) (fun c_4 => ?_)
        · refine lv_iinc (v := ((nI y.1) + 1)) (lv' := [(2, .int ((nI y.1) + 1)), (0, .ref h), (1, .int (y.2))]) hx hb dB_dirtyFrameOfLowestPage_50 hl (k := 2) rfl rfl (by decide) rfl (fun ls hl => ?_)
          refine lv_goto (tgt := 4) hx hb dB_dirtyFrameOfLowestPage_53 (by decide) ?_
          exact ih (n - 1) (y.1 + 1, y.2) _ _ _ (by omega) ⟨rfl, rfl, by omega, by omega, (by have h9 := hdl; rw [er] at h9 ⊢; exact dlR_keep h9 hz (by omega) (fun h => absurd h (Int32.not_lt.mpr c_4))), hP, lv_sub hl [1, 2, 0] (by rw [← nI_1 y.1]; rfl)⟩
        · refine lv_iload_n hx hb dB_dirtyFrameOfLowestPage_48 rfl (lv_at hl 2 rfl) ?_
          refine lv_istore_n (lv' := [(1, .int (nI y.1)), (0, .ref h), (2, .int (nI y.1))]) hx hb dB_dirtyFrameOfLowestPage_49 rfl hl (by decide) rfl (fun ls hl => ?_)
          refine lv_iinc (v := ((nI y.1) + 1)) (lv' := [(2, .int ((nI y.1) + 1)), (1, .int (nI y.1)), (0, .ref h)]) hx hb dB_dirtyFrameOfLowestPage_50 hl (k := 2) rfl rfl (by decide) rfl (fun ls hl => ?_)
          refine lv_goto (tgt := 4) hx hb dB_dirtyFrameOfLowestPage_53 (by decide) ?_
          exact ih (n - 1) (y.1 + 1, (nI y.1)) _ _ _ (by omega) ⟨rfl, rfl, by omega, by omega, dlR_less (er ▸ hdl) hz (by omega) c_2 (Int32.not_le.mp c_4), hP, lv_sub hl [2, 1, 0] (by rw [← nI_1 y.1]; rfl)⟩
