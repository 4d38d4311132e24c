/-! WHAT A THROW NEEDS: words that grow warm by laws of their own, the texts, Throwable's two statics -/
abbrev xIAE : String := "java/lang/IllegalArgumentException"
abbrev xISE : String := "java/lang/IllegalStateException"
abbrev xNSE : String := "java/util/NoSuchElementException"
abbrev xUOE : String := "java/lang/UnsupportedOperationException"
abbrev xUp : List String := ["java/lang/RuntimeException", "java/lang/Exception"]
def xwB : List Cond := [.declares (Bundle.initS "java/lang/RuntimeException"), .declares (Bundle.initS "java/lang/Exception"), .declares (Bundle.initS Bundle.tN), .castable xIAE xIAE, .castable xISE xISE, .castable xNSE xNSE, .castable xUOE xUOE]
theorem xwB_in : ∀ w ∈ xwB, w ∈ lw_tbl := by decide +kernel
theorem xwB_tab : ∀ w ∈ xwB, w.onTables = true := by decide +kernel
theorem xwB_warm {s U : State} (hW : s.WarmedH U.vm) (h : ∀ w ∈ xwB, va_Nw w s) : ∀ w ∈ xwB, va_Nw w U := by
  intro w hw
  have h0 := h w hw
  simp only [xwB, List.mem_cons, List.not_mem_nil, or_false] at hw
  rcases hw with rfl | rfl | rfl | rfl | rfl | rfl | rfl <;> first | exact va_Nw.warmD hW h0 | exact va_Nw.warmC hW h0
/-- the texts: which entry, which words -/
def txB : List (Nat × String) := [(40, "there is no such page"), (58, "all frames have pins"), (66, "the page is torn"), (191, "the power went"), (85, "a frame has the page"), (115, "n is not 1 .. 12"), (131, "n is not 0 .. 999")]
def tk_X (sa : Nat → Nat) (U : State) : Prop := (∀ w ∈ xwB, va_Nw w U) ∧ ∀ (i : Nat) (q : Nat × String), txB[i]? = some q → vk_R RB q.1 q.2 (sa i) U
theorem tk_X.warm {sa : Nat → Nat} {s U : State} (hW : s.WarmedH U.vm) (h : tk_X sa s) : tk_X sa U := ⟨xwB_warm hW h.1, fun i q hq => vk_R.warm hW (h.2 i q hq)⟩
theorem tk_X.call {sa : Nat → Nat} {U : State} (h : tk_X sa U) {g : JFrame} {mk : MethodId} {a : Array Value} : tk_X sa (U.calling g mk a) :=
  ⟨fun w hw => va_Nw.same (u := U) (U := U.calling g mk a) (xwB_tab w hw) rfl (h.1 w hw), fun i q hq => vk_R.same (u := U) (U := U.calling g mk a) rfl (h.2 i q hq)⟩
def tk_Z (A : Nat → Prop) (U : State) (H : Heap) : Prop := vx_Zq Bundle.tN "UNASSIGNED_STACK" Bundle.steD A U H ∧ vx_Zq Bundle.tN "SUPPRESSED_SENTINEL" Bundle.listD A U H
theorem tk_Z.at {A B : Nat → Prop} {s U : State} {H : Heap} {locs : List Loc} (h : tk_Z A s s.heap) (hS : va_S A s.heap H locs) (hU : U.heap = H) (hW : s.WarmedH U.vm) (hAB : ∀ q, B q → A q) : tk_Z B U U.heap := by
  rw [hU]
  exact ⟨vx_Zq.narrow (vx_Zq.moved hW.alike (vx_Zq.kept h.1 hS.2.1)) hAB, vx_Zq.narrow (vx_Zq.moved hW.alike (vx_Zq.kept h.2 hS.2.1)) hAB⟩
theorem tk_Z.call {A : Nat → Prop} {U : State} (h : tk_Z A U U.heap) {g : JFrame} {mk : MethodId} {a : Array Value} : tk_Z A (U.calling g mk a) (U.calling g mk a).heap :=
  ⟨vx_Zq.moved (u := U) (U := U.calling g mk a) (Vm.Alike.refl U.vm) h.1, vx_Zq.moved (u := U) (U := U.calling g mk a) (Vm.Alike.refl U.vm) h.2⟩
/-- the words of a throw of E, its call at the entry ic -/
theorem tk_at {ic : Nat} {E : String} {args : Array Value} {s : State} (hg : ∀ w ∈ (vx_atS RB ic E xUp).filter goodWord, w ∈ lwg) (hb : ∀ w ∈ (vx_atS RB ic E xUp).filter (fun w => !goodWord w), w ∈ xwB) (hq : ∀ w ∈ lwg, w.before args s = true) (hX : ∀ w ∈ xwB, va_Nw w s) : ∀ w ∈ vx_atS RB ic E xUp, w.before args s = true :=
  vx_hat (fun w hw => hq w (hg w hw)) hb (fun w hw => va_Nw.use (xwB_tab w hw) (hX w hw))
theorem xg_UOE : ∀ w ∈ (vx_atS RB 193 xUOE xUp).filter goodWord, w ∈ lwg := by decide +kernel
theorem xb_UOE : ∀ w ∈ (vx_atS RB 193 xUOE xUp).filter (fun w => !goodWord w), w ∈ xwB := by decide +kernel
theorem xo_UOE : ∀ w ∈ Cond.classLink RB 189 xUOE :: Cond.initialized xUOE :: vx_atS RB 193 xUOE xUp, vx_ot w = true := by decide +kernel
theorem xg_IAE : ∀ w ∈ (vx_atS RB 42 xIAE xUp).filter goodWord, w ∈ lwg := by decide +kernel
theorem xb_IAE : ∀ w ∈ (vx_atS RB 42 xIAE xUp).filter (fun w => !goodWord w), w ∈ xwB := by decide +kernel
theorem xo_IAE : ∀ w ∈ Cond.classLink RB 38 xIAE :: Cond.initialized xIAE :: vx_atS RB 42 xIAE xUp, vx_ot w = true := by decide +kernel
theorem xg_ISE : ∀ w ∈ (vx_atS RB 60 xISE xUp).filter goodWord, w ∈ lwg := by decide +kernel
theorem xb_ISE : ∀ w ∈ (vx_atS RB 60 xISE xUp).filter (fun w => !goodWord w), w ∈ xwB := by decide +kernel
theorem xo_ISE : ∀ w ∈ Cond.classLink RB 56 xISE :: Cond.initialized xISE :: vx_atS RB 60 xISE xUp, vx_ot w = true := by decide +kernel
/-- a callee that had the whole world -/
theorem tk_freeW {A0 : Nat → Prop} {ws : va_W} {H0 H : Heap} {locs : List Loc} (hD : va_D A0 ws) (hS : va_S A0 H0 H locs) (hA : ∀ q, H0.size ≤ q → A0 q) : ∀ z, va_A ws H.size z → A0 z :=
  tk_free hD hS hA (fun _ hx => List.getElem?_of_mem hx)
theorem tk_keptP {D : va_G} {cl : List vw_C} {ws : va_W} {H H1 : Heap} (hP : va_P D cl ws H) (h : ∀ q : Nat, q < H.size → H1[q]? = H[q]?) : va_P D cl ws H1 := hP.kept (fun k q hk => h q.1 ((hP k q hk).lt))
theorem tk_keptF {A : Nat → Prop} {s t : State} {H : Heap} {locs : List Loc} (hS : va_S A s.heap H locs) (hz : H.size ≤ t.heap.size) (h : ∀ q : Nat, q < H.size → t.heap[q]? = H[q]?) : va_F A s t := ⟨Nat.le_trans hS.1 hz, fun q h1 h2 => (h q (Nat.lt_of_lt_of_le h1 hS.1)).trans (hS.2.1 q h1 h2)⟩
