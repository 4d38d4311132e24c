theorem txB_in : ∀ (i : Nat) (q : Nat × String), txB[i]? = some q → Cond.stringRef RB q.1 q.2 ∈ lw_tbl := by
  have h : ∀ q ∈ txB, Cond.stringRef RB q.1 q.2 ∈ lw_tbl := by decide +kernel
  exact fun i q hq => h q (List.mem_of_getElem? hq)

/-! AT THE LAW'S ENTRY -/
theorem lw_env {s : State} {b : Nat} (hts : ∀ w ∈ lw_tbl, w.before #[Value.ref b] s = true) (hgv : (Jvm.Cond.and given_1 narrow_1).before #[Value.ref b] s = true) : ∃ (dC : Nat → ClassId) (dI : Nat → Nat → Nat) (ka : Nat → ClassId) (sa : Nat → Nat), tk_E dC dI ka s ∧ tk_X sa s ∧ tk_Z (fun q : Nat => s.heap.size ≤ q) s s.heap ∧ tk_N s ∧ va_AO RF s := by
  have hq : ∀ w ∈ lwg, w.before #[Value.ref b] s = true := fun w h => hts w (lwg_in h)
  have hg := flat_of_before _ hgv
  obtain ⟨cD, iD, hKD⟩ := u_known (C := RD) (T := TD) (N := 4) (n := 4) hq inD (hq (.instantiable RD 4) wi_48)
  obtain ⟨cF, iF, hKF⟩ := u_known (C := RF) (T := TF) (N := 5) (n := 5) hq inF (hq (.instantiable RF 5) wi_88)
  obtain ⟨cG, iG, hKG⟩ := u_known (C := RG) (T := TG) (N := 2) (n := 2) hq inG (hq (.instantiable RG 2) wi_72)
  obtain ⟨cB, iB, hKB⟩ := u_known (C := RB) (T := TB) (N := 4) (n := 4) hq inB (hq (.instantiable RB 4) wi_40)
  obtain ⟨cM, iM, hKM⟩ := u_known (C := RM) (T := TM) (N := 24) (n := 24) hq inM (hq (.instantiable RM 24) wi_457)
  obtain ⟨dC, dI, hKc⟩ : ∃ (dC : Nat → ClassId) (dI : Nat → Nat → Nat), ∀ (k : Nat) (q : vw_C), clB[k]? = some q → u_Kn s q.1 q.2.1 q.2.2 (dC k) (dI k) := by
    refine ⟨fun k => if k = 0 then cD else if k = 1 then cF else if k = 2 then cG else if k = 3 then cB else cM, fun k => if k = 0 then iD else if k = 1 then iF else if k = 2 then iG else if k = 3 then iB else iM, ?_⟩
    intro k q hq
    match k, hq with
    | 0, hq => cases hq; exact hKD
    | 1, hq => cases hq; exact hKF
    | 2, hq => cases hq; exact hKG
    | 3, hq => cases hq; exact hKB
    | 4, hq => cases hq; exact hKM
    | k + 5, hq => simp [clB] at hq
  obtain ⟨cA_byte, kA_byte, cm_byte, a1_byte, a2_byte, a3_byte⟩ := Cond.arrayClass_spec (hq (.arrayClass .byte) wi_70)
  obtain ⟨cA_short, kA_short, cm_short, a1_short, a2_short, a3_short⟩ := Cond.arrayClass_spec (hq (.arrayClass .short) wi_539)
  obtain ⟨cA_int, kA_int, cm_int, a1_int, a2_int, a3_int⟩ := Cond.arrayClass_spec (hq (.arrayClass .int) wi_540)
  obtain ⟨cA_boolean, kA_boolean, cm_boolean, a1_boolean, a2_boolean, a3_boolean⟩ := Cond.arrayClass_spec (hq (.arrayClass .boolean) wi_541)
  obtain ⟨cA_long, kA_long, cm_long, a1_long, a2_long, a3_long⟩ := Cond.arrayClass_spec (hq (.arrayClass .long) wi_653)
  have hAO : va_AO RF s := va_AO.of (hts (.arrayOver (.object RF)) (by decide +kernel))
  obtain ⟨comp, cF9, kF9, f1, f2, f3, f4, f5⟩ := Cond.arrayOver_spec hAO
  have hcur : ∃ cur, s.vm.findClass RB = some cur := ⟨_, (hKc 3 _ rfl).2.1⟩
  obtain ⟨cur, hcur⟩ := hcur
  have hstr : ∀ i : Nat, ∃ a : Nat, ∀ q : Nat × String, txB[i]? = some q → vk_R RB q.1 q.2 a s := by
    intro i
    cases h : txB[i]? with
    | none => exact ⟨0, fun q hq => by cases hq⟩
    | some q =>
      have hw : Cond.stringRef RB q.1 q.2 ∈ lw_tbl := txB_in i q h
      obtain ⟨k, cf, j, a, -, -, -, -, -, ev⟩ := Cond.stringRef_spec hcur (hts _ hw)
      refine ⟨a, fun q' hq' => ?_⟩
      cases hq'
      exact vk_R.of (hts _ hw) ev
  obtain ⟨sa, hsa⟩ := Classical.axiomOfChoice hstr
  refine ⟨dC, dI, fun i => if i = 0 then cA_byte else if i = 1 then cF9 else if i = 2 then cA_short else if i = 3 then cA_int else if i = 4 then cA_boolean else cA_long, sa, ⟨⟨hKc, fun k q hk => ?_⟩, fun w hw => va_Nw.of (nsB_tab w hw) (hts w (nsB_in w hw))⟩, ⟨fun w hw => va_Nw.of (xwB_tab w hw) (hts w (xwB_in w hw)), fun i q hq => hsa i q hq⟩, ⟨vx_Zqof (hts _ (by decide +kernel)) (hq _ wi_29) (hg _ (by decide +kernel)) (fun a h => by omega), vx_Zqof (hts _ (by decide +kernel)) (hq _ wi_29) (hg _ (by decide +kernel)) (fun a h => by omega)⟩, ⟨va_Nc.of (hg _ (by decide +kernel)), va_Nc.of (hg _ (by decide +kernel)), va_Nc.of (hg _ (by decide +kernel)), va_Nc.of (hg _ (by decide +kernel)), va_Nc.of (hg _ (by decide +kernel)), va_Nc.of (hg _ (by decide +kernel))⟩, hAO⟩
  match k, hk with
  | 0, hk => cases hk; exact ⟨fun n z => ⟨fun k h => (by cases h), kA_byte, a2_byte, cm_byte, a3_byte⟩, a1_byte⟩
  | 1, hk => cases hk; exact ⟨fun n z => ⟨fun k h => (by cases h), kF9, f3, comp, f4⟩, kF9, comp, f3, f4, f1, f5⟩
  | 2, hk => cases hk; exact ⟨fun n z => ⟨fun k h => (by cases h), kA_short, a2_short, cm_short, a3_short⟩, a1_short⟩
  | 3, hk => cases hk; exact ⟨fun n z => ⟨fun k h => (by cases h), kA_int, a2_int, cm_int, a3_int⟩, a1_int⟩
  | 4, hk => cases hk; exact ⟨fun n z => ⟨fun k h => (by cases h), kA_boolean, a2_boolean, cm_boolean, a3_boolean⟩, a1_boolean⟩
  | 5, hk => cases hk; exact ⟨fun n z => ⟨fun k h => (by cases h), kA_long, a2_long, cm_long, a3_long⟩, a1_long⟩
  | k + 6, hk => simp [tysB] at hk
