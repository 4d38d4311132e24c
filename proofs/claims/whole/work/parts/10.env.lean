/-! THE ENVIRONMENT OF EVERY CONTRACT: the classes and array classes as the tables have them, the links among nest mates -/
def tysB (ka : Nat → ClassId) : List (ClassId × FieldType) := [(ka 0, .byte), (ka 1, .object RF), (ka 2, .short), (ka 3, .int), (ka 4, .boolean), (ka 5, .long)]
def tk_E (dC : Nat → ClassId) (dI : Nat → Nat → Nat) (ka : Nat → ClassId) (U : State) : Prop := va_K (dC, dI) clB (tysB ka) U ∧ ∀ w ∈ nsB, va_Nw w U
theorem nsB_tab : ∀ w ∈ nsB, w.onTables = true := by decide +kernel
theorem nsB_warm {s U : State} (hW : s.WarmedH U.vm) (h : ∀ w ∈ nsB, va_Nw w s) : ∀ w ∈ nsB, va_Nw w U := by
  intro w hw
  have h0 := h w hw
  simp only [nsB, List.mem_cons, List.not_mem_nil, or_false] at hw
  rcases hw with rfl | rfl | rfl | rfl | rfl | rfl | rfl | rfl | rfl | rfl | rfl | rfl | rfl | rfl | rfl <;> first | exact va_Nw.warmF hW h0 | exact va_Nw.warmM hW h0
theorem tk_E.warm {dC : Nat → ClassId} {dI : Nat → Nat → Nat} {ka : Nat → ClassId} {s U : State} (hW : s.WarmedH U.vm) (h : tk_E dC dI ka s) : tk_E dC dI ka U := ⟨va_K.moved hW.alike h.1, nsB_warm hW h.2⟩
theorem tk_E.call {dC : Nat → ClassId} {dI : Nat → Nat → Nat} {ka : Nat → ClassId} {U : State} (h : tk_E dC dI ka U) {g : JFrame} {mk : MethodId} {a : Array Value} : tk_E dC dI ka (U.calling g mk a) :=
  ⟨va_K.moved (u := U) (U := U.calling g mk a) (Vm.Alike.refl U.vm) h.1, fun w hw => va_Nw.same (u := U) (U := U.calling g mk a) (nsB_tab w hw) rfl (h.2 w hw)⟩
theorem tw_I {cx cy : Cond} (h5 : cy ∈ lwg) : GoodIn (cx :: lwg) (cy :: lwg) := by
  intro w hw
  have key : w ∈ lwg := by
    rcases List.mem_cons.mp hw with rfl | h
    · exact h5
    · exact h
  exact ⟨List.mem_cons_of_mem _ key, good_of_word (lwg_good key)⟩
theorem tw_V {cx cy : Cond} {own C : String} {idx : Nat} {y : MethodName} (h1 : Cond.methodLink own idx y ∈ lwg) (h2 : Cond.instanceMethod y ∈ lwg) (h3 : Cond.selects C y y ∈ lwg) (h4 : Cond.initialized C ∈ lwg) (h5 : cy ∈ lwg) : GoodIn (cx :: lwg) (wsV own idx C y (cy :: lwg)) := by
  intro w hw
  have key : w ∈ lwg := by
    simp only [wsV, List.mem_append, List.mem_cons, List.not_mem_nil, or_false] at hw
    rcases hw with (rfl | rfl | rfl | rfl) | rfl | hw
    all_goals assumption
  exact ⟨List.mem_cons_of_mem _ key, good_of_word (lwg_good key)⟩
theorem tw_S {cx cy : Cond} {own : String} {idx : Nat} {y : MethodName} (h1 : Cond.methodLink own idx y ∈ lwg) (h2 : Cond.static y ∈ lwg) (h4 : Cond.initialized own ∈ lwg) (h5 : cy ∈ lwg) : GoodIn (cx :: lwg) (wsS own idx y (cy :: lwg)) := by
  intro w hw
  have key : w ∈ lwg := by
    simp only [wsS, List.mem_append, List.mem_cons, List.not_mem_nil, or_false] at hw
    rcases hw with (rfl | rfl | rfl) | rfl | hw
    all_goals assumption
  exact ⟨List.mem_cons_of_mem _ key, good_of_word (lwg_good key)⟩
theorem tw_A {cx cy : Cond} {own : String} {idx : Nat} {y : MethodName} (h1 : Cond.methodLink own idx y ∈ lwg) (h2 : Cond.static y ∈ lwg) (h4 : Cond.initialized y.cls ∈ lwg) (h5 : cy ∈ lwg) : GoodIn (cx :: lwg) (va_wsS own idx y (cy :: lwg)) := by
  intro w hw
  have key : w ∈ lwg := by
    simp only [va_wsS, List.mem_append, List.mem_cons, List.not_mem_nil, or_false] at hw
    rcases hw with (rfl | rfl | rfl) | rfl | hw
    all_goals assumption
  exact ⟨List.mem_cons_of_mem _ key, good_of_word (lwg_good key)⟩
theorem inC {cx : Cond} {ws : List Cond} (h : ∀ w ∈ ws, w ∈ lwg) : ∀ w ∈ ws, w ∈ cx :: lwg := fun w hw => List.mem_cons_of_mem _ (h w hw)
section TKA
variable {p : Program} {l : Launch} {e : Env} {R : Room} {s : State} {m : MethodId} {args : Array Value} {below : List Frame} {meth : Method} {c : Code} {H : Heap} {locs : List Loc} {cells slots : Nat} {Q : State → Prop}
variable {cc : ByteArray} {pc : Nat} {ls : Array Slot} {rest : List Value} {D : va_G} {cl : List vw_C} {A : Nat → Prop} {a : Nat} {tys : List (ClassId × FieldType)} {ws : va_W} {H0 : Heap}
theorem tk_bald (hexec : p.tables.exec = Jvm.exec) (hb : c.code = cc) (hK : va_K D cl tys s) (hP : va_P D cl ws H) (q0 t0 : Nat) {cA : ClassId} {N n : Nat} {f : Nat → Int32} (ha : ws[q0]? = some (a, .inl (cA, N, .inl f))) (ht : tys[t0]? = some (cA, .byte)) {i : Int32} (hi : i = nI n) (hn : n < N) (hN : N < 2 ^ 31) (hdg : decode cc pc = .ok (.baload, 1))
    (kk : W p l e R s m args below meth c H locs cells slots Q (F0 m (pc + 1) ls (.int (f n) :: rest))) : W p l e R s m args below meth c H locs cells slots Q (F0 m pc ls (.int i :: .ref a :: rest)) := by
  subst hi
  refine va_bald hexec hb hK hP q0 t0 ha ht (vp_in_nI hn hN) hdg ?_
  rw [nI_clamp (by omega)]
  exact kk
theorem tk_zald (hexec : p.tables.exec = Jvm.exec) (hb : c.code = cc) (hK : va_K D cl tys s) (hP : va_P D cl ws H) (q0 t0 : Nat) {cA : ClassId} {N n : Nat} {f : Nat → Int32} (ha : ws[q0]? = some (a, .inl (cA, N, .inl f))) (ht : tys[t0]? = some (cA, .boolean)) {i : Int32} (hi : i = nI n) (hn : n < N) (hN : N < 2 ^ 31) (hdg : decode cc pc = .ok (.baload, 1))
    (kk : W p l e R s m args below meth c H locs cells slots Q (F0 m (pc + 1) ls (.int (f n) :: rest))) : W p l e R s m args below meth c H locs cells slots Q (F0 m pc ls (.int i :: .ref a :: rest)) := by
  subst hi
  refine va_zald hexec hb hK hP q0 t0 ha ht (vp_in_nI hn hN) hdg ?_
  rw [nI_clamp (by omega)]
  exact kk
theorem tk_iald (hexec : p.tables.exec = Jvm.exec) (hb : c.code = cc) (hK : va_K D cl tys s) (hP : va_P D cl ws H) (q0 t0 : Nat) {cA : ClassId} {N n : Nat} {f : Nat → Int32} (ha : ws[q0]? = some (a, .inl (cA, N, .inl f))) (ht : tys[t0]? = some (cA, .int)) {i : Int32} (hi : i = nI n) (hn : n < N) (hN : N < 2 ^ 31) (hdg : decode cc pc = .ok (.iaload, 1))
    (kk : W p l e R s m args below meth c H locs cells slots Q (F0 m (pc + 1) ls (.int (f n) :: rest))) : W p l e R s m args below meth c H locs cells slots Q (F0 m pc ls (.int i :: .ref a :: rest)) := by
  subst hi
  refine va_iald hexec hb hK hP q0 t0 ha ht (vp_in_nI hn hN) hdg ?_
  rw [nI_clamp (by omega)]
  exact kk
theorem tk_sald (hexec : p.tables.exec = Jvm.exec) (hb : c.code = cc) (hK : va_K D cl tys s) (hP : va_P D cl ws H) (q0 t0 : Nat) {cA : ClassId} {N n : Nat} {f : Nat → Int32} (ha : ws[q0]? = some (a, .inl (cA, N, .inl f))) (ht : tys[t0]? = some (cA, .short)) {i : Int32} (hi : i = nI n) (hn : n < N) (hN : N < 2 ^ 31) (hdg : decode cc pc = .ok (.saload, 1))
    (kk : W p l e R s m args below meth c H locs cells slots Q (F0 m (pc + 1) ls (.int (f n) :: rest))) : W p l e R s m args below meth c H locs cells slots Q (F0 m pc ls (.int i :: .ref a :: rest)) := by
  subst hi
  refine va_sald hexec hb hK hP q0 t0 ha ht (vp_in_nI hn hN) hdg ?_
  rw [nI_clamp (by omega)]
  exact kk
theorem tk_aald (hexec : p.tables.exec = Jvm.exec) (hb : c.code = cc) (hK : va_K D cl tys s) (hP : va_P D cl ws H) (q0 t0 : Nat) {cA : ClassId} {C : String} {N n y : Nat} {f : Nat → Option Nat} (ha : ws[q0]? = some (a, .inl (cA, N, .inr (.inr (.inr (.inr f)))))) (ht : tys[t0]? = some (cA, .object C)) {i : Int32} (hi : i = nI n) (hn : n < N) (hN : N < 2 ^ 31) (hf : f n = some y) (hdg : decode cc pc = .ok (.aaload, 1))
    (kk : W p l e R s m args below meth c H locs cells slots Q (F0 m (pc + 1) ls (.ref y :: rest))) : W p l e R s m args below meth c H locs cells slots Q (F0 m pc ls (.int i :: .ref a :: rest)) := by
  subst hi
  refine va_aldq hexec hb hK hP q0 t0 ha ht (vp_in_nI hn hN) hdg ?_
  rw [nI_clamp (by omega), hf]
  exact kk
theorem tk_bast (hexec : p.tables.exec = Jvm.exec) (hb : c.code = cc) (hK : va_K D cl tys s) (hP : va_P D cl ws H) (hD : va_D A ws) (hS : va_S A H0 H locs) (q0 t0 : Nat) {cA : ClassId} {N n : Nat} {f : Nat → Int32} (ha : ws[q0]? = some (a, .inl (cA, N, .inl f))) (ht : tys[t0]? = some (cA, .byte)) {i x v : Int32} (hi : i = nI n) (hn : n < N) (hN : N < 2 ^ 31) (hv : x.toInt8.toInt32 = v) (hdg : decode cc pc = .ok (.bastore, 1))
    (kk : ∀ (H1 : Heap) (locs1 : List Loc), va_P D cl (ws.set q0 (a, .inl (cA, N, .inl (upd f n v)))) H1 → va_D A (ws.set q0 (a, .inl (cA, N, .inl (upd f n v)))) → va_S A H0 H1 locs1 → W p l e R s m args below meth c H1 locs1 cells slots Q (F0 m (pc + 1) ls rest)) : W p l e R s m args below meth c H locs cells slots Q (F0 m pc ls (.int x :: .int i :: .ref a :: rest)) := by
  subst hi
  subst hv
  refine va_bast hexec hb hK hP hD hS q0 t0 ha ht (vp_in_nI hn hN) hdg ?_
  rw [nI_clamp (by omega), vp_nar_byte]
  exact kk
theorem tk_zast (hexec : p.tables.exec = Jvm.exec) (hb : c.code = cc) (hK : va_K D cl tys s) (hP : va_P D cl ws H) (hD : va_D A ws) (hS : va_S A H0 H locs) (q0 t0 : Nat) {cA : ClassId} {N n : Nat} {f : Nat → Int32} (ha : ws[q0]? = some (a, .inl (cA, N, .inl f))) (ht : tys[t0]? = some (cA, .boolean)) {i x v : Int32} (hi : i = nI n) (hn : n < N) (hN : N < 2 ^ 31) (hv : vp_nar .boolean x = v) (hdg : decode cc pc = .ok (.bastore, 1))
    (kk : ∀ (H1 : Heap) (locs1 : List Loc), va_P D cl (ws.set q0 (a, .inl (cA, N, .inl (upd f n v)))) H1 → va_D A (ws.set q0 (a, .inl (cA, N, .inl (upd f n v)))) → va_S A H0 H1 locs1 → W p l e R s m args below meth c H1 locs1 cells slots Q (F0 m (pc + 1) ls rest)) : W p l e R s m args below meth c H locs cells slots Q (F0 m pc ls (.int x :: .int i :: .ref a :: rest)) := by
  subst hi
  subst hv
  refine va_zast hexec hb hK hP hD hS q0 t0 ha ht (vp_in_nI hn hN) hdg ?_
  rw [nI_clamp (by omega)]
  exact kk
theorem tk_iast (hexec : p.tables.exec = Jvm.exec) (hb : c.code = cc) (hK : va_K D cl tys s) (hP : va_P D cl ws H) (hD : va_D A ws) (hS : va_S A H0 H locs) (q0 t0 : Nat) {cA : ClassId} {N n : Nat} {f : Nat → Int32} (ha : ws[q0]? = some (a, .inl (cA, N, .inl f))) (ht : tys[t0]? = some (cA, .int)) {i x : Int32} (hi : i = nI n) (hn : n < N) (hN : N < 2 ^ 31) (hdg : decode cc pc = .ok (.iastore, 1))
    (kk : ∀ (H1 : Heap) (locs1 : List Loc), va_P D cl (ws.set q0 (a, .inl (cA, N, .inl (upd f n x)))) H1 → va_D A (ws.set q0 (a, .inl (cA, N, .inl (upd f n x)))) → va_S A H0 H1 locs1 → W p l e R s m args below meth c H1 locs1 cells slots Q (F0 m (pc + 1) ls rest)) : W p l e R s m args below meth c H locs cells slots Q (F0 m pc ls (.int x :: .int i :: .ref a :: rest)) := by
  subst hi
  refine va_iast hexec hb hK hP hD hS q0 t0 ha ht (vp_in_nI hn hN) hdg ?_
  rw [nI_clamp (by omega)]
  exact kk
theorem tk_sast (hexec : p.tables.exec = Jvm.exec) (hb : c.code = cc) (hK : va_K D cl tys s) (hP : va_P D cl ws H) (hD : va_D A ws) (hS : va_S A H0 H locs) (q0 t0 : Nat) {cA : ClassId} {N n : Nat} {f : Nat → Int32} (ha : ws[q0]? = some (a, .inl (cA, N, .inl f))) (ht : tys[t0]? = some (cA, .short)) {i x v : Int32} (hi : i = nI n) (hn : n < N) (hN : N < 2 ^ 31) (hv : x.toInt16.toInt32 = v) (hdg : decode cc pc = .ok (.sastore, 1))
    (kk : ∀ (H1 : Heap) (locs1 : List Loc), va_P D cl (ws.set q0 (a, .inl (cA, N, .inl (upd f n v)))) H1 → va_D A (ws.set q0 (a, .inl (cA, N, .inl (upd f n v)))) → va_S A H0 H1 locs1 → W p l e R s m args below meth c H1 locs1 cells slots Q (F0 m (pc + 1) ls rest)) : W p l e R s m args below meth c H locs cells slots Q (F0 m pc ls (.int x :: .int i :: .ref a :: rest)) := by
  subst hi
  subst hv
  refine va_sast hexec hb hK hP hD hS q0 t0 ha ht (vp_in_nI hn hN) hdg ?_
  rw [nI_clamp (by omega), vp_nar_short]
  exact kk
end TKA
