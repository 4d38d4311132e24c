theorem tk_ix {x : Int32} (N : Nat) (hN : N < 2 ^ 31) : (x < 0 ∨ nI N ≤ x) ∨ ∃ n : Nat, n < N ∧ x = nI n := by
  rcases pk_ix x hN with h | h | ⟨j, h1, h2⟩
  · exact Or.inl (Or.inl h)
  · exact Or.inl (Or.inr h)
  · exact Or.inr ⟨j, h1, h2⟩
theorem tk_is1 {x : Int32} {n N : Nat} (ex : x = nI n) (hn : n < N) (hN : N < 2 ^ 31) : (if x < 0 then (0 : Int32) else if nI N ≤ x then 0 else 1) = 1 := by
  rw [if_neg (by rw [ex]; exact nI_pos (by omega)), if_neg (by rw [ex]; exact nI_ge hn hN)]
theorem tk_is0 {x : Int32} {N : Nat} (h : x < 0 ∨ nI N ≤ x) : (if x < 0 then (0 : Int32) else if nI N ≤ x then 0 else 1) = 0 := by
  by_cases h1 : x < 0
  · rw [if_pos h1]
  · rw [if_neg h1, if_pos (h.resolve_left h1)]
/-- the lowest frame that has the page x, or -1 -/
def fwR (pg : Nat → Int32) (x r : Int32) : Prop := (r = -1 ∧ ∀ i, i < 12 → pg i ≠ x) ∨ ∃ i, i < 12 ∧ r = nI i ∧ pg i = x ∧ ∀ j, j < i → pg j ≠ x
theorem fwR_step {pg : Nat → Int32} {x r : Int32} (h : fwR pg x r) {i : Nat} (hi : i < 12) (he : ∀ j, j < i → pg j ≠ x) (hx : pg i = x) : r = nI i := by
  rcases h with ⟨-, h⟩ | ⟨k, hk, hr, hp, hm⟩
  · exact absurd hx (h i hi)
  · rcases Nat.lt_trichotomy i k with g | g | g
    · exact absurd hx (hm i g)
    · rw [hr, g]
    · exact absurd hp (he k g)
theorem fwR_none {pg : Nat → Int32} {x r : Int32} (h : fwR pg x r) (he : ∀ j, j < 12 → pg j ≠ x) : r = -1 := by
  rcases h with ⟨h, -⟩ | ⟨k, hk, -, hp, -⟩
  · exact h
  · exact absurd hp (he k hk)

set_option maxHeartbeats 4000000 in
set_option maxRecDepth 100000 in
theorem c_B_frameWith (l : Launch) (dC : Nat → ClassId) (dI : Nat → Nat → Nat) (ka : Nat → ClassId) (h dr db lg fa : Nat) (fr fb : Nat → Nat) (pg pn us di : Nat → Int32) (bt : Nat → Nat → Int32) (dk : Nat → Int32) (lf wn rd en fl hd : Int32) (x r0 : Int32) (hr0 : fwR pg x r0) : Met l yB_frameWith wB_frameWith ({ frames := 0, cells := 0, slots := 0, locals := 0 }) (va_Pc [.ref h, .int x] (fun U => tk_E dC dI ka U ∧ va_P (dC, dI) clB (dw h dr db lg fa fr fb ka pg pn us di bt dk lf wn rd en fl hd) U.heap)) (vp_Si (fun r => r = r0)) 0 0 (fun _ => False) := by
  refine Met.ofW (cc := cB_frameWith) (maxL := 3) (ret := (some .int)) (by decide) rfl ?_
  intro p e s m args below meth c s₁ B hml hv
  obtain ⟨rfl, hE, hP⟩ := hv
  have hx := B.exec
  have hb := B.bytes
  have hr := B.returns
  have hts := atoms_spec (ws := wB_frameWith) B.pre
  have hq : ∀ w ∈ lwg, w.before _ s = true := fun w h => hts w (List.mem_cons_of_mem _ h)
  have hown : s.vm.findClass RB = some m.cls := findClass_of_methodNamed B.named
  have hlocks := B.notSynchronized
  have hK := hE.1
  have hN := hE.2
  have hP : va_P (dC, dI) clB (dw h dr db lg fa fr fb ka pg pn us di bt dk lf wn rd en fl hd) s.heap := hP
  have hl := lv_entry ([.ref h, .int x]) (n := 3) (Nat.le_of_ble_eq_true rfl)
  rw [lg_entry_eq]
  generalize (lg_sl ([.ref h, .int x]) ++ List.replicate (3 - (lg_sl ([.ref h, .int x])).length) Slot.unset).toArray = ls at hl ⊢
  have hl : lv_has ls 3 [(0, .ref h), (1, .int x)] := hl
  refine lv_iconst (v := 0) hx hb dB_frameWith_0 (by decide) ?_
  refine lv_istore_n (lv' := [(2, .int 0), (0, .ref h), (1, .int x)]) hx hb dB_frameWith_1 rfl hl (by decide) rfl (fun ls hl => ?_)
  refine tk_loop 2 (fun (n : Nat) (z : Nat) H locs ls => (H = s.heap) ∧ (locs = []) ∧ (z ≤ 12) ∧ (n = 12 - z) ∧ (∀ j, j < z → pg j ≠ x) ∧ va_P (dC, dI) clB (dw h dr db lg fa fr fb ka pg pn us di bt dk lf wn rd en fl hd) H ∧ lv_has ls 3 [(0, .ref h), (1, .int x), (2, .int (nI z))]) ?_ 12 0 ⟨rfl, rfl, (by decide), rfl, (fun j h => absurd h (Nat.not_lt_zero j)), hP, lv_sub hl [1, 2, 0] rfl⟩
  skip
  intro n z H locs ls hI ih
  obtain ⟨rfl, rfl, hi, hn, he, hP, hl⟩ := hI
  refine lv_iload_n hx hb dB_frameWith_2 rfl (lv_at hl 2 rfl) ?_
  refine lv_bipush (v := 12) hx hb dB_frameWith_3 (by decide) ?_
  refine lv_icmp_ge (tgt := 29) hx hb dB_frameWith_5 (by decide) (fun c_1 => ?_) (fun c_1 => ?_)
  · refine lv_iconst (v := (-1)) hx hb dB_frameWith_29 (by decide) ?_
    exact W.iret (v := (-1)) hx hb hr (fun t ht hW => ⟨(-1), rfl, (fwR_none hr0 (fun j hj => he j (by have := (nI_leI (a := 12) (b := z) (by decide) (by omega)).mp c_1; omega))).symm, ht⟩) (fun _ h => by cases h) dB_frameWith_30
  · have hz : z < 12 := by have := mt (nI_leI (a := 12) (b := z) (by decide) (by omega)).mpr c_1; omega
    refine lv_aload_n hx hb dB_frameWith_8 rfl (lv_at hl 0 rfl) ?_
    refine va_get (D := (dC, dI)) (ci := 3) (v := .ref fa) (C := RB) (T := TB) (N := 4) hx hb hts (inC inB) hown hK hP 0 rfl rfl 2 (by decide) (hq _ wi_116) (fun _ h9 => h9) rfl dB_frameWith_9 ?_
    refine lv_iload_n hx hb dB_frameWith_12 rfl (lv_at hl 2 rfl) ?_
    refine tk_aald (n := z) (y := fr z) hx hb hK hP 4 1 rfl rfl rfl hz (by decide) rfl dB_frameWith_13 ?_
    refine va_getN (D := (dC, dI)) (ci := 1) (v := .int (pg z)) (C := RF) (T := TF) (N := 5) hx hb hts (inC inF) hown hK hP (5 + z) (dw_fr hz) rfl 1 (by decide) (va_Nw.use rfl (hN _ ns_9)) (fun _ h9 => h9) rfl dB_frameWith_14 ?_
    refine lv_iload_n hx hb dB_frameWith_17 rfl (lv_at hl 1 rfl) ?_
    refine lv_icmp_ne (tgt := 23) hx hb dB_frameWith_18 (by decide) (fun c_2 => ?_) (fun c_2 => ?_)
    · refine lv_iinc (v := ((nI z) + 1)) (lv' := [(2, .int ((nI z) + 1)), (0, .ref h), (1, .int x)]) hx hb dB_frameWith_23 hl (k := 2) rfl rfl (by decide) rfl (fun ls hl => ?_)
      refine lv_goto (tgt := 2) hx hb dB_frameWith_26 (by decide) ?_
      exact ih (n - 1) (z + 1) _ _ _ (by omega) ⟨rfl, rfl, by omega, by omega, (fun j h => by rcases Nat.lt_or_ge j z with g | g; exact he j g; rw [show j = z by omega]; exact c_2), hP, lv_sub hl [1, 2, 0] (by rw [← nI_1]; rfl)⟩
    · refine lv_iload_n hx hb dB_frameWith_21 rfl (lv_at hl 2 rfl) ?_
      exact W.iret (v := (nI z)) hx hb hr (fun t ht hW => ⟨(nI z), rfl, (fwR_step hr0 hz he c_2).symm, ht⟩) (fun _ h => by cases h) dB_frameWith_22

/-- whether all frames have pins -/
def ahR (pn : Nat → Int32) (r : Int32) : Prop := (r = 1 ∧ ∀ i, i < 12 → ¬ pn i ≤ 0) ∨ (r = 0 ∧ ∃ i, i < 12 ∧ pn i ≤ 0)
theorem ahR_no {pn : Nat → Int32} {r : Int32} (h : ahR pn r) {i : Nat} (hi : i < 12) (hp : pn i ≤ 0) : r = 0 := by
  rcases h with ⟨-, h⟩ | ⟨h, -⟩
  · exact absurd hp (h i hi)
  · exact h
theorem ahR_yes {pn : Nat → Int32} {r : Int32} (h : ahR pn r) (he : ∀ i, i < 12 → ¬ pn i ≤ 0) : r = 1 := by
  rcases h with ⟨h, -⟩ | ⟨-, i, hi, hp⟩
  · exact h
  · exact absurd hp (he i hi)
theorem tk_b1 {c : Prop} [Decidable c] (h : ¬ (if c then (0 : Int32) else 1) = 0) : ¬ c := fun hc => h (if_pos hc)
theorem tk_b0 {c : Prop} [Decidable c] (h : (if c then (0 : Int32) else 1) = 0) : c := by
  by_cases hc : c
  · exact hc
  · rw [if_neg hc] at h; exact absurd h (by decide)
theorem tk_c1 {c : Prop} [Decidable c] (h : ¬ (if c then (1 : Int32) else 0) = 0) : c := by
  by_cases hc : c
  · exact hc
  · rw [if_neg hc] at h; exact absurd rfl h
theorem tk_c0 {c : Prop} [Decidable c] (h : (if c then (1 : Int32) else 0) = 0) : ¬ c := fun hc => by rw [if_pos hc] at h; exact absurd h (by decide)

set_option maxHeartbeats 4000000 in
set_option maxRecDepth 100000 in
theorem c_B_allHavePins (l : Launch) (dC : Nat → ClassId) (dI : Nat → Nat → Nat) (ka : Nat → ClassId) (h dr db lg fa : Nat) (fr fb : Nat → Nat) (pg pn us di : Nat → Int32) (bt : Nat → Nat → Int32) (dk : Nat → Int32) (lf wn rd en fl hd : Int32) (r0 : Int32) (hr0 : ahR pn r0) : Met l yB_allHavePins wB_allHavePins ({ frames := 1, cells := 0, slots := 0, locals := 20 }) (va_Pc [.ref h] (fun U => tk_E dC dI ka U ∧ va_P (dC, dI) clB (dw h dr db lg fa fr fb ka pg pn us di bt dk lf wn rd en fl hd) U.heap)) (vp_Si (fun r => r = r0)) 0 0 (fun _ => False) := by
  refine Met.ofW (cc := cB_allHavePins) (maxL := 2) (ret := (some .boolean)) (by decide) rfl ?_
  intro p e s m args below meth c s₁ B hml hv
  obtain ⟨rfl, hE, hP⟩ := hv
  have hx := B.exec
  have hb := B.bytes
  have hr := B.returns
  have hts := atoms_spec (ws := wB_allHavePins) B.pre
  have hq : ∀ w ∈ lwg, w.before _ s = true := fun w h => hts w (List.mem_cons_of_mem _ h)
  have hown : s.vm.findClass RB = some m.cls := findClass_of_methodNamed B.named
  have hlocks := B.notSynchronized
  have hK := hE.1
  have hN := hE.2
  have hP : va_P (dC, dI) clB (dw h dr db lg fa fr fb ka pg pn us di bt dk lf wn rd en fl hd) s.heap := hP
  have hl := lv_entry ([.ref h]) (n := 2) (Nat.le_of_ble_eq_true rfl)
  rw [lg_entry_eq]
  generalize (lg_sl ([.ref h]) ++ List.replicate (2 - (lg_sl ([.ref h])).length) Slot.unset).toArray = ls at hl ⊢
  have hl : lv_has ls 2 [(0, .ref h)] := hl
  refine lv_iconst (v := 0) hx hb dB_allHavePins_0 (by decide) ?_
  refine lv_istore_n (lv' := [(1, .int 0), (0, .ref h)]) hx hb dB_allHavePins_1 rfl hl (by decide) rfl (fun ls hl => ?_)
  refine tk_loop 2 (fun (n : Nat) (z : Nat) H locs ls => (H = s.heap) ∧ (locs = []) ∧ (z ≤ 12) ∧ (n = 12 - z) ∧ (∀ j, j < z → ¬ pn j ≤ 0) ∧ va_P (dC, dI) clB (dw h dr db lg fa fr fb ka pg pn us di bt dk lf wn rd en fl hd) H ∧ lv_has ls 2 [(0, .ref h), (1, .int (nI z))]) ?_ 12 0 ⟨rfl, rfl, (by decide), rfl, (fun j h => absurd h (Nat.not_lt_zero j)), hP, lv_sub hl [1, 0] rfl⟩
  skip
  intro n z H locs ls hI ih
  obtain ⟨rfl, rfl, hi, hn, he, hP, hl⟩ := hI
  refine lv_iload_n hx hb dB_allHavePins_2 rfl (lv_at hl 1 rfl) ?_
  refine lv_bipush (v := 12) hx hb dB_allHavePins_3 (by decide) ?_
  refine lv_icmp_ge (tgt := 28) hx hb dB_allHavePins_5 (by decide) (fun c_1 => ?_) (fun c_1 => ?_)
  · refine lv_iconst (v := 1) hx hb dB_allHavePins_28 (by decide) ?_
    exact W.zret (v := 1) (ty := .boolean) hx hb hr rfl (fun t ht hW => ⟨1, rfl, (ahR_yes hr0 (fun j hj => he j (by have := (nI_leI (a := 12) (b := z) (by decide) (by omega)).mp c_1; omega))).symm, ht⟩) (fun _ h => by cases h) dB_allHavePins_29
  · have hz : z < 12 := by have := mt (nI_leI (a := 12) (b := z) (by decide) (by omega)).mpr c_1; omega
    refine lv_aload_n hx hb dB_allHavePins_8 rfl (lv_at hl 0 rfl) ?_
    refine va_get (D := (dC, dI)) (ci := 3) (v := .ref fa) (C := RB) (T := TB) (N := 4) hx hb hts (inC inB) hown hK hP 0 rfl rfl 2 (by decide) (hq _ wi_116) (fun _ h9 => h9) rfl dB_allHavePins_9 ?_
    refine lv_iload_n hx hb dB_allHavePins_12 rfl (lv_at hl 1 rfl) ?_
    refine tk_aald (n := z) (y := fr z) hx hb hK hP 4 1 rfl rfl rfl hz (by decide) rfl dB_allHavePins_13 ?_
    refine vp_callSi (va_Run.run (va_runV (As := []) (rest := []) ⟨hx, hb, hml, hown, hts⟩ (c_F_hasPins l dC dI ka (fr z) (fb z) (pg z) (pn z) (us z) (di z)) (cwV 0 hts (tw_V wi_134 wi_135 wi_136 wi_27 wi_137) rfl rfl rfl (by decide +kernel) ⟨Nat.le_of_ble_eq_true rfl, Nat.le_of_ble_eq_true rfl⟩) ⟨fun a U g mk q => ⟨q.1, tk_E.call q.2.1, q.2.2⟩, va_recv hK hP (ci := 1) (q0 := (5 + z)) rfl (dw_fr hz), fun U hU hW => ⟨rfl, tk_E.warm hW hE, by rw [hU]; exact (tk_one hP (k := 5 + z) (dw_fr hz))⟩⟩ rfl rfl hl.1 rfl (lv_room (Nat.le_of_ble_eq_true rfl)) dB_allHavePins_14 ⟨Nat.zero_le _, Nat.zero_le _⟩)) (fun r_2 er_2 => ?_)
    subst er_2
    refine lv_if_ne (tgt := 22) hx hb dB_allHavePins_17 (by decide) (fun c_3 => ?_) (fun c_3 => ?_)
    · refine lv_iinc (v := ((nI z) + 1)) (lv' := [(1, .int ((nI z) + 1)), (0, .ref h)]) hx hb dB_allHavePins_22 hl (k := 1) rfl rfl (by decide) rfl (fun ls hl => ?_)
      refine lv_goto (tgt := 2) hx hb dB_allHavePins_25 (by decide) ?_
      exact ih (n - 1) (z + 1) _ _ _ (by omega) ⟨rfl, rfl, by omega, by omega, (fun j h => by rcases Nat.lt_or_ge j z with g | g; exact he j g; rw [show j = z by omega]; exact tk_b1 c_3), hP, lv_sub hl [1, 0] (by rw [← nI_1]; rfl)⟩
    · refine lv_iconst (v := 0) hx hb dB_allHavePins_20 (by decide) ?_
      exact W.zret (v := 0) (ty := .boolean) hx hb hr rfl (fun t ht hW => ⟨0, rfl, (ahR_no hr0 hz (tk_b0 c_3)).symm, ht⟩) (fun _ h => by cases h) dB_allHavePins_21

/-- how many frames below z have a page -/
def cntP (pg : Nat → Int32) : Nat → Nat
  | 0 => 0
  | z + 1 => cntP pg z + if pg z = -1 then 0 else 1
theorem cntP_le (pg : Nat → Int32) (z : Nat) : cntP pg z ≤ z := by
  induction z with
  | zero => exact Nat.le_refl 0
  | succ z ih => simp only [cntP]; split <;> omega
