section
-- ===== PART A: goes FIRST, ahead of the names: the tables' words, and 'selects' of the private methods out of them =====
/-- a private method of a class that the tables say can be made, by its rows of tables_1 -/
def lw_okq (q : MethodName × Nat) : Prop := (q.1.cls ≠ "java/lang/invoke/MethodHandle" ∧ q.1.cls ≠ "java/lang/invoke/VarHandle") ∧ Cond.instantiable q.1.cls q.2 ∈ tables_1 ∧ Cond.privateMethod q.1 ∈ tables_1 ∧ Cond.instanceMethod q.1 ∈ tables_1
theorem lw_p0 : lw_okq (⟨"BufferDesk", "framesWithPages", "()I"⟩, 4) := ⟨⟨by decide +kernel, by decide +kernel⟩, List.mem_of_getElem? (i := 17) (by decide +kernel), List.mem_of_getElem? (i := 186) (by decide +kernel), List.mem_of_getElem? (i := 187) (by decide +kernel)⟩
theorem lw_p1 : lw_okq (⟨"java/lang/Throwable", "fillInStackTrace", "(I)Ljava/lang/Throwable;"⟩, 6) := ⟨⟨by decide +kernel, by decide +kernel⟩, List.mem_of_getElem? (i := 240) (by decide +kernel), List.mem_of_getElem? (i := 238) (by decide +kernel), List.mem_of_getElem? (i := 239) (by decide +kernel)⟩
theorem lw_p2 : lw_okq (⟨"BufferDesk", "frameWith", "(I)I"⟩, 4) := ⟨⟨by decide +kernel, by decide +kernel⟩, List.mem_of_getElem? (i := 17) (by decide +kernel), List.mem_of_getElem? (i := 269) (by decide +kernel), List.mem_of_getElem? (i := 270) (by decide +kernel)⟩
theorem lw_p3 : lw_okq (⟨"BufferDesk", "allHavePins", "()Z"⟩, 4) := ⟨⟨by decide +kernel, by decide +kernel⟩, List.mem_of_getElem? (i := 17) (by decide +kernel), List.mem_of_getElem? (i := 280) (by decide +kernel), List.mem_of_getElem? (i := 281) (by decide +kernel)⟩
theorem lw_p4 : lw_okq (⟨"BufferDesk", "findFrame", "()I"⟩, 4) := ⟨⟨by decide +kernel, by decide +kernel⟩, List.mem_of_getElem? (i := 17) (by decide +kernel), List.mem_of_getElem? (i := 316) (by decide +kernel), List.mem_of_getElem? (i := 317) (by decide +kernel)⟩
theorem lw_p5 : lw_okq (⟨"BufferDesk", "frameByHand", "()I"⟩, 4) := ⟨⟨by decide +kernel, by decide +kernel⟩, List.mem_of_getElem? (i := 17) (by decide +kernel), List.mem_of_getElem? (i := 320) (by decide +kernel), List.mem_of_getElem? (i := 321) (by decide +kernel)⟩
theorem lw_p6 : lw_okq (⟨"BufferDesk", "writePageOf", "(LBufferDesk$Frame;)V"⟩, 4) := ⟨⟨by decide +kernel, by decide +kernel⟩, List.mem_of_getElem? (i := 17) (by decide +kernel), List.mem_of_getElem? (i := 335) (by decide +kernel), List.mem_of_getElem? (i := 336) (by decide +kernel)⟩
theorem lw_p7 : lw_okq (⟨"BufferDesk$Frame", "putStamps", "(I)V"⟩, 5) := ⟨⟨by decide +kernel, by decide +kernel⟩, List.mem_of_getElem? (i := 65) (by decide +kernel), List.mem_of_getElem? (i := 348) (by decide +kernel), List.mem_of_getElem? (i := 349) (by decide +kernel)⟩
theorem lw_p8 : lw_okq (⟨"BufferDesk", "losePower", "()V"⟩, 4) := ⟨⟨by decide +kernel, by decide +kernel⟩, List.mem_of_getElem? (i := 17) (by decide +kernel), List.mem_of_getElem? (i := 359) (by decide +kernel), List.mem_of_getElem? (i := 360) (by decide +kernel)⟩
theorem lw_p9 : lw_okq (⟨"BufferDesk", "dirtyFrameOfLowestPage", "()I"⟩, 4) := ⟨⟨by decide +kernel, by decide +kernel⟩, List.mem_of_getElem? (i := 17) (by decide +kernel), List.mem_of_getElem? (i := 422) (by decide +kernel), List.mem_of_getElem? (i := 423) (by decide +kernel)⟩
theorem lw_p10 : lw_okq (⟨"BufferDeskModel", "empty", "()V"⟩, 24) := ⟨⟨by decide +kernel, by decide +kernel⟩, List.mem_of_getElem? (i := 434) (by decide +kernel), List.mem_of_getElem? (i := 440) (by decide +kernel), List.mem_of_getElem? (i := 441) (by decide +kernel)⟩
theorem lw_p11 : lw_okq (⟨"BufferDeskModel", "framePlace", "(I)I"⟩, 24) := ⟨⟨by decide +kernel, by decide +kernel⟩, List.mem_of_getElem? (i := 434) (by decide +kernel), List.mem_of_getElem? (i := 531) (by decide +kernel), List.mem_of_getElem? (i := 532) (by decide +kernel)⟩
theorem lw_p12 : lw_okq (⟨"BufferDeskModel", "placeOf", "(III)I"⟩, 24) := ⟨⟨by decide +kernel, by decide +kernel⟩, List.mem_of_getElem? (i := 434) (by decide +kernel), List.mem_of_getElem? (i := 535) (by decide +kernel), List.mem_of_getElem? (i := 536) (by decide +kernel)⟩
theorem lw_p13 : lw_okq (⟨"BufferDeskModel", "valueOf", "(IIII)I"⟩, 24) := ⟨⟨by decide +kernel, by decide +kernel⟩, List.mem_of_getElem? (i := 434) (by decide +kernel), List.mem_of_getElem? (i := 539) (by decide +kernel), List.mem_of_getElem? (i := 540) (by decide +kernel)⟩
theorem lw_p14 : lw_okq (⟨"BufferDeskModel", "isTorn", "(I)Z"⟩, 24) := ⟨⟨by decide +kernel, by decide +kernel⟩, List.mem_of_getElem? (i := 434) (by decide +kernel), List.mem_of_getElem? (i := 554) (by decide +kernel), List.mem_of_getElem? (i := 555) (by decide +kernel)⟩
theorem lw_p15 : lw_okq (⟨"BufferDeskModel", "fails", "(I)I"⟩, 24) := ⟨⟨by decide +kernel, by decide +kernel⟩, List.mem_of_getElem? (i := 434) (by decide +kernel), List.mem_of_getElem? (i := 562) (by decide +kernel), List.mem_of_getElem? (i := 563) (by decide +kernel)⟩
def lw_privs_1 : List (MethodName × Nat) := [(⟨"BufferDesk", "framesWithPages", "()I"⟩, 4), (⟨"java/lang/Throwable", "fillInStackTrace", "(I)Ljava/lang/Throwable;"⟩, 6), (⟨"BufferDesk", "frameWith", "(I)I"⟩, 4), (⟨"BufferDesk", "allHavePins", "()Z"⟩, 4), (⟨"BufferDesk", "findFrame", "()I"⟩, 4), (⟨"BufferDesk", "frameByHand", "()I"⟩, 4), (⟨"BufferDesk", "writePageOf", "(LBufferDesk$Frame;)V"⟩, 4), (⟨"BufferDesk$Frame", "putStamps", "(I)V"⟩, 5), (⟨"BufferDesk", "losePower", "()V"⟩, 4), (⟨"BufferDesk", "dirtyFrameOfLowestPage", "()I"⟩, 4), (⟨"BufferDeskModel", "empty", "()V"⟩, 24), (⟨"BufferDeskModel", "framePlace", "(I)I"⟩, 24), (⟨"BufferDeskModel", "placeOf", "(III)I"⟩, 24), (⟨"BufferDeskModel", "valueOf", "(IIII)I"⟩, 24), (⟨"BufferDeskModel", "isTorn", "(I)Z"⟩, 24), (⟨"BufferDeskModel", "fails", "(I)I"⟩, 24)]
theorem lw_r1 : ∀ q ∈ lw_privs_1, lw_okq q := List.forall_mem_cons.mpr ⟨lw_p0, List.forall_mem_cons.mpr ⟨lw_p1, List.forall_mem_cons.mpr ⟨lw_p2, List.forall_mem_cons.mpr ⟨lw_p3, List.forall_mem_cons.mpr ⟨lw_p4, List.forall_mem_cons.mpr ⟨lw_p5, List.forall_mem_cons.mpr ⟨lw_p6, List.forall_mem_cons.mpr ⟨lw_p7, List.forall_mem_cons.mpr ⟨lw_p8, List.forall_mem_cons.mpr ⟨lw_p9, List.forall_mem_cons.mpr ⟨lw_p10, List.forall_mem_cons.mpr ⟨lw_p11, List.forall_mem_cons.mpr ⟨lw_p12, List.forall_mem_cons.mpr ⟨lw_p13, List.forall_mem_cons.mpr ⟨lw_p14, List.forall_mem_cons.mpr ⟨lw_p15, fun _ h => absurd h List.not_mem_nil⟩⟩⟩⟩⟩⟩⟩⟩⟩⟩⟩⟩⟩⟩⟩⟩
theorem lw_p16 : lw_okq (⟨"BufferDeskModel", "frameOf", "(I)I"⟩, 24) := ⟨⟨by decide +kernel, by decide +kernel⟩, List.mem_of_getElem? (i := 434) (by decide +kernel), List.mem_of_getElem? (i := 566) (by decide +kernel), List.mem_of_getElem? (i := 567) (by decide +kernel)⟩
theorem lw_p17 : lw_okq (⟨"BufferDeskModel", "allPinned", "()Z"⟩, 24) := ⟨⟨by decide +kernel, by decide +kernel⟩, List.mem_of_getElem? (i := 434) (by decide +kernel), List.mem_of_getElem? (i := 570) (by decide +kernel), List.mem_of_getElem? (i := 571) (by decide +kernel)⟩
theorem lw_p18 : lw_okq (⟨"BufferDeskModel", "found", "()I"⟩, 24) := ⟨⟨by decide +kernel, by decide +kernel⟩, List.mem_of_getElem? (i := 434) (by decide +kernel), List.mem_of_getElem? (i := 574) (by decide +kernel), List.mem_of_getElem? (i := 575) (by decide +kernel)⟩
theorem lw_p19 : lw_okq (⟨"BufferDeskModel", "write", "(I)Z"⟩, 24) := ⟨⟨by decide +kernel, by decide +kernel⟩, List.mem_of_getElem? (i := 434) (by decide +kernel), List.mem_of_getElem? (i := 578) (by decide +kernel), List.mem_of_getElem? (i := 579) (by decide +kernel)⟩
theorem lw_p20 : lw_okq (⟨"BufferDeskModel", "cut", "()V"⟩, 24) := ⟨⟨by decide +kernel, by decide +kernel⟩, List.mem_of_getElem? (i := 434) (by decide +kernel), List.mem_of_getElem? (i := 583) (by decide +kernel), List.mem_of_getElem? (i := 584) (by decide +kernel)⟩
theorem lw_p21 : lw_okq (⟨"BufferDeskModel", "fill", "(III)V"⟩, 24) := ⟨⟨by decide +kernel, by decide +kernel⟩, List.mem_of_getElem? (i := 434) (by decide +kernel), List.mem_of_getElem? (i := 587) (by decide +kernel), List.mem_of_getElem? (i := 588) (by decide +kernel)⟩
theorem lw_p22 : lw_okq (⟨"BufferDeskModel", "isPinned", "(I)Z"⟩, 24) := ⟨⟨by decide +kernel, by decide +kernel⟩, List.mem_of_getElem? (i := 434) (by decide +kernel), List.mem_of_getElem? (i := 599) (by decide +kernel), List.mem_of_getElem? (i := 600) (by decide +kernel)⟩
def lw_privs_2 : List (MethodName × Nat) := [(⟨"BufferDeskModel", "frameOf", "(I)I"⟩, 24), (⟨"BufferDeskModel", "allPinned", "()Z"⟩, 24), (⟨"BufferDeskModel", "found", "()I"⟩, 24), (⟨"BufferDeskModel", "write", "(I)Z"⟩, 24), (⟨"BufferDeskModel", "cut", "()V"⟩, 24), (⟨"BufferDeskModel", "fill", "(III)V"⟩, 24), (⟨"BufferDeskModel", "isPinned", "(I)Z"⟩, 24)]
theorem lw_r2 : ∀ q ∈ lw_privs_2, lw_okq q := List.forall_mem_cons.mpr ⟨lw_p16, List.forall_mem_cons.mpr ⟨lw_p17, List.forall_mem_cons.mpr ⟨lw_p18, List.forall_mem_cons.mpr ⟨lw_p19, List.forall_mem_cons.mpr ⟨lw_p20, List.forall_mem_cons.mpr ⟨lw_p21, List.forall_mem_cons.mpr ⟨lw_p22, fun _ h => absurd h List.not_mem_nil⟩⟩⟩⟩⟩⟩⟩
def lw_privs : List (MethodName × Nat) := lw_privs_1 ++ (lw_privs_2)
def lw_tbl : List Cond := k2_sels lw_privs ++ tables_1
theorem lw_privs_ok : ∀ q ∈ lw_privs, lw_okq q := by
  show ∀ q ∈ lw_privs_1 ++ (lw_privs_2), lw_okq q
  exact List.forall_mem_append.mpr ⟨lw_r1, lw_r2⟩
/-! ===== BEGIN words of one list among another's, by their places ===== -/
theorem goodIn_r {big : List Cond} (ws : List Cond) (ps : List Nat) (hp : ws = ps.filterMap (fun i => big[i]?)) (h : ws.all goodWord = true) : GoodIn big ws := by
  intro w hw
  have h1 := List.all_eq_true.mp h w hw
  rw [hp] at hw
  obtain ⟨i, -, hi⟩ := List.mem_filterMap.mp hw
  have hm : w ∈ big := by first | exact List.mem_of_getElem? hi | exact List.getElem?_mem hi
  exact ⟨hm, good_of_word h1⟩
theorem goodIn_app {big a b : List Cond} (ha : GoodIn big a) (hb : GoodIn big b) : GoodIn big (a ++ b) := fun w h => (List.mem_append.mp h).elim (ha w) (hb w)
theorem goodIn_ca {big a b : List Cond} {c : Cond} (ha : GoodIn big (c :: a)) (hb : GoodIn big b) : GoodIn big (c :: (a ++ b)) := fun w h => (List.mem_cons.mp h).elim (fun e => ha w (List.mem_cons.mpr (Or.inl e))) (fun h => (List.mem_append.mp h).elim (fun h => ha w (List.mem_cons.mpr (Or.inr h))) (hb w))
theorem goodIn_sub {big ws : List Cond} (hm : ∀ w ∈ ws, w ∈ big) (h : ws.all goodWord = true) : GoodIn big ws := fun w hw => ⟨hm w hw, good_of_word (List.all_eq_true.mp h w hw)⟩
/-! ===== END ===== -/

/-! ===== BEGIN exceptions that leave a method, and their catching by the caller (launches without stack traces) ===== -/
section VXA
/-! The laws vx_back, vx_callV, vx_callS, vx_callSW, vx_throw0, vx_throwS follow proofs of the library, with one case more: JvmDerived/Free/Laws.lean (Back.of_free), Shelf42/LK1.lean (callV, callS), Shelf/KitTraced.lean (throwNew0V, throwNewS). -/
/-- where a method has thrown q: the class by its name, the cell, what was written, the world -/
def vx_T (XC : String → State → State → Prop) (st : State) (q : Addr) (t : State) (mc ms : Nat) (free : Addr → Prop) : Prop :=
  ∃ (E : String) (ce : Cell) (L : List Loc), XC E st t ∧ t.heap[q]? = some ce ∧ ce.vm = .none ∧ st.vm.findClass E = some ce.cls ∧ st.WarmedH t.vm ∧ st.sameButNew ({ t with vm := st.vm } : State) L mc ms ∧ ∀ z ∈ L, free z.base
def vx_Q (Qc : Array Value → State → Outcome → State → Prop) (XC : String → State → State → Prop) (mc ms : Nat) (free : Addr → Prop) : Array Value → State → Outcome → State → Prop := fun a st o t =>
  (Qc a st o t ∧ ∃ L, FrameEnd st o t L mc ms ∧ ∀ q ∈ L, free q.base) ∨ ∃ q, o = .threw q ∧ vx_T XC st q t mc ms free
/-- a callee that returns or throws -/
def vx_Met (l : Launch) (y : MethodName) (ws : List Cond) (rm : Room) (Pc : Array Value → State → Prop) (Qc : Array Value → State → Outcome → State → Prop) (XC : String → State → State → Prop) (mc ms : Nat) (free : Addr → Prop) : Prop :=
  MetFree l y (headSpec ws rm) Pc (fun _ _ _ _ _ => True) (vx_Q Qc XC mc ms free)
def vx_Post (XC : String → State → State → Prop) (mc ms : Nat) (free : Addr → Prop) : Pt → Array Value → Addr → Pt → Prop := fun A a q B =>
  ∃ (g : JFrame) (mk : MethodId) (t : State) (L : List Loc) (E : String) (ce : Cell), B.U.heap = t.heap ∧ B.U.vm = t.vm ∧ XC E (A.U.calling g mk a) t ∧ t.heap[q]? = some ce ∧ ce.vm = .none ∧ A.U.vm.findClass E = some ce.cls ∧ B.locs = A.locs ++ L ∧ (∀ z ∈ L, free z.base) ∧ B.cells = A.cells + mc ∧ B.slots = A.slots + ms
def vx_Back (l : Launch) (R : Room) (p : Program) (e : Env) (below : List Frame) (s : State) (sargs : Array Value) (y : MethodName) (len W9 : Nat)
    (Pre : Pt → Array Value → Prop) (Post : Pt → Array Value → Option Value → Pt → Prop) (PostX : Pt → Array Value → Addr → Pt → Prop) : Prop :=
  ∀ (m : MethodId) (meth : Method) (c : Code) (A : Pt) (g : JFrame) (ig : Instr) (mk : MethodId) (a : Array Value),
    Stand p l e R s m sargs below meth c A.U A.locs A.cells A.slots → g.method = m → g.locals.size = c.maxLocals → decode c.code g.pc = .ok (ig, len) →
    2 * g.monitorRoom + (g.stack.map fun v => v.category).sum ≤ W9 → A.U.methodNamed? y = some mk → Pre A a →
    (∃ (v : Option Value) (B : Pt), Stand p l e R s m sargs below meth c B.U B.locs B.cells B.slots ∧ Post A a v B ∧
      Steps p.tables e below (doInvoke e (A.U.setTop g) [] mk a).1 (B.U.setTop { g with pc := g.pc + len, stack := v.toList ++ g.stack })) ∨
    (∃ (q : Addr) (B : Pt), Stand p l e R s m sargs below meth c B.U B.locs B.cells B.slots ∧ PostX A a q B ∧
      Steps p.tables e below (doInvoke e (A.U.setTop g) [] mk a).1 ((B.U.setTop g).pushFrame (.throwing q)))
section Payer
variable {l : Launch} {R : Room} {p : Program} {e : Env} {below : List Frame} {s : State} {sargs : Array Value} {y : MethodName} {len W9 : Nat}
theorem vx_back {ws : List Cond} {rm : Room} {Pc : Array Value → State → Prop} {Qc : Array Value → State → Outcome → State → Prop} {XC : String → State → State → Prop} {mc ms : Nat} {free : Addr → Prop} {bytes : ByteArray} {maxL : Nat} {ret : Option FieldType}
    (hM : vx_Met l y ws rm Pc Qc XC mc ms free) (hblind : FrameBlind Pc) (hrc : rm.cells = mc) (hrs : rm.slots = ms)
    (hframes : rm.frames + 1 ≤ R.frames) (hlocals : W9 + (maxL + 11) + rm.locals ≤ R.locals)
    (hws : ∀ w ∈ ws, ∀ a' U, s.WarmedH U.vm → w.before a' U = true) (hcode : Cond.code y bytes maxL ret ∈ ws) (hinit : ∀ a' U, s.WarmedH U.vm → (Cond.initialized y.cls).before a' U = true) :
    vx_Back l R p e below s sargs y len W9 (PreOf R mc ms Pc) (PostOf Qc mc ms free) (vx_Post XC mc ms free) := by
  intro m meth c A g ig mk a X hg hsize hdg hW hn hp
  have h1 : (headSpec ws rm).pre.before a A.U = true := atoms_intro fun w hw => hws w hw _ _ X.warmed
  have h2 : (Cond.code y bytes maxL ret).before a A.U = true := hws _ hcode _ _ X.warmed
  have h3 : (Cond.initialized y.cls).before a A.U = true := hinit _ _ X.warmed
  have h4 : A.cells + (headSpec ws rm).room.cells ≤ R.cells := by rw [show (headSpec ws rm).room.cells = mc from hrc]; exact hp.1
  have h5 : A.slots + (headSpec ws rm).room.slots ≤ R.slots := by rw [show (headSpec ws rm).room.slots = ms from hrs]; exact hp.2.1
  have hPc : Pc a (A.U.calling g mk a) := hblind _ _ _ _ hp.2.2
  obtain ⟨U, Ls, c0, s0⟩ := A
  dsimp only [Pt.U, Pt.locs, Pt.cells, Pt.slots] at h1 h2 h3 h4 h5 X hn hPc ⊢
  obtain ⟨methY, cY, hmY, hcY, -, hlY, -, -, -, -⟩ := Cond.code_spec hn h2
  obtain ⟨kY, hkY, -⟩ := className_of_methodNamed hn
  have hinitY : kY.init = .initialized := Cond.initialized_spec (findClass_of_methodNamed hn) hkY h3
  have h : At U g.method c below := by rw [hg]; exact X.here
  have hlocals9 : W9 + (maxL + 11) + (headSpec ws rm).room.locals ≤ R.locals := hlocals
  have happ : (headSpec ws rm).appliesLoose y e.platform (U.calling g mk a) = true :=
    Spec.appliesLoose_calling (g := g) h hdg hn hkY hinitY
      (X.room_calling (g := g) (R' := (headSpec ws rm).room) hsize hmY hcY hframes (by rw [hlY]; omega) h4 h5) h1
  obtain ⟨mid, hmid⟩ := h.above
  have hfr : (U.setTop g).frames = (.java g :: mid) ++ below := by rw [State.frames_setTop' g h.top, hmid]; rfl
  obtain ⟨o, s₂, hsteps, -, hend, hq⟩ := Steps.callFree hM p X.admits X.cas X.clock (acts := []) hfr happ hPc trivial
  have hq' : vx_Q Qc XC mc ms free a (U.calling g mk a) o s₂ := hq
  rw [State.frames_setTop' g h.top] at hend
  obtain ⟨g₀, hg0⟩ := Option.isSome_iff_exists.mp h.top
  obtain ⟨r, hr⟩ := State.topJava?_eq_some.mp hg0
  have hr' : (({ U with heap := s₂.heap, slotsUsed := s₂.slotsUsed } : State).setVm s₂.vm).frames = .java g₀ :: r := hr
  rcases hq' with ⟨hqc, L, hfe, hL⟩ | ⟨q, rfl, E, ce, L, hx, hce, hcv, hcl, hW₂, hsm, hL⟩
  · obtain ⟨⟨v, rfl⟩, hW₂, e2, q2, q3, q4, q5, q6⟩ := id hfe
    have e3 : s₂ = ({ (U.calling g mk a).setFrames s₂.frames with heap := s₂.heap, slotsUsed := s₂.slotsUsed } : State).setVm s₂.vm := by
      have : s₂ = ({ s₂ with vm := (U.calling g mk a).vm } : State).setVm s₂.vm := rfl
      rw [e2] at this
      exact this
    obtain ⟨c₂, i₂, len₂, hc₂, hd₂, hf₂⟩ := hend
    have hW' : U.WarmedH s₂.vm := hW₂
    have hcc : c₂ = c := by
      have h1 : s₂.code? g.method = U.code? g.method := by
        rw [State.code?_eq, State.code?_eq, hW'.alike.method?]
      exact Option.some.inj (hc₂.symm.trans (h1.trans h.code))
    subst hcc
    have hlen : len₂ = len := by rw [hdg] at hd₂; cases hd₂; rfl
    subst hlen
    have hs₂ : s₂ = (({ U with heap := s₂.heap, slotsUsed := s₂.slotsUsed } : State).setVm s₂.vm).setTop { g with pc := g.pc + len₂, stack := v.toList ++ g.stack } := by
      refine e3.trans ?_
      rw [hf₂, State.calling_eq h.top, State.setFrames_setFrames, State.setTop_of_frames _ hr', hr]
      rfl
    have hsame : U.sameButNew ({ U with heap := s₂.heap, slotsUsed := s₂.slotsUsed } : State) L mc ms := by
      refine ⟨?_, q2, q3, q4, q5, q6⟩
      obtain ⟨t, ht, -⟩ := State.frames_cons hr
      show ({ U with heap := s₂.heap, slotsUsed := s₂.slotsUsed } : State) = { U.setFrames U.frames with heap := s₂.heap, slotsUsed := s₂.slotsUsed }
      rw [State.setFrames_self ht]
    subst hg
    refine Or.inl ⟨v, ⟨(({ U with heap := s₂.heap, slotsUsed := s₂.slotsUsed } : State).setVm s₂.vm), Ls ++ L, c0 + mc, s0 + ms⟩,
      ⟨X.admits, X.cas, X.clock, X.frames, X.room, X.hears, X.method, X.code, (X.here.setHeapUsed s₂.heap s₂.slotsUsed).setVm hW'.alike, X.tail, State.WarmedH.trans X.warmed hW', X.limits, X.bytes, X.same.trans (hsame.setVm s.vm)⟩,
      ⟨g, mk, s₂, L, rfl, rfl, hqc, rfl, hL, rfl, rfl⟩, ?_⟩
    show Steps p.tables e below _ ((({ U with heap := s₂.heap, slotsUsed := s₂.slotsUsed } : State).setVm s₂.vm).setTop { g with pc := g.pc + len₂, stack := v.toList ++ g.stack })
    rw [← hs₂]
    exact hsteps
  · obtain ⟨e2, q2, q3, q4, q5, q6⟩ := id hsm
    have e3 : s₂ = ({ (U.calling g mk a).setFrames s₂.frames with heap := s₂.heap, slotsUsed := s₂.slotsUsed } : State).setVm s₂.vm := by
      have : s₂ = ({ s₂ with vm := (U.calling g mk a).vm } : State).setVm s₂.vm := rfl
      rw [e2] at this
      exact this
    have hf₂ : s₂.frames = .throwing q :: .java g :: U.frames.tail := hend
    have hW' : U.WarmedH s₂.vm := hW₂
    have hs₂ : s₂ = ((({ U with heap := s₂.heap, slotsUsed := s₂.slotsUsed } : State).setVm s₂.vm).setTop g).pushFrame (.throwing q) := by
      refine e3.trans ?_
      rw [hf₂, State.calling_eq h.top, State.setFrames_setFrames, State.pushFrame, State.frames_setTop _ hr', State.setTop_of_frames _ hr', State.setFrames_setFrames, hr]
      rfl
    have hsame : U.sameButNew ({ U with heap := s₂.heap, slotsUsed := s₂.slotsUsed } : State) L mc ms := by
      refine ⟨?_, q2, q3, q4, q5, q6⟩
      obtain ⟨t, ht, -⟩ := State.frames_cons hr
      show ({ U with heap := s₂.heap, slotsUsed := s₂.slotsUsed } : State) = { U.setFrames U.frames with heap := s₂.heap, slotsUsed := s₂.slotsUsed }
      rw [State.setFrames_self ht]
    subst hg
    refine Or.inr ⟨q, ⟨(({ U with heap := s₂.heap, slotsUsed := s₂.slotsUsed } : State).setVm s₂.vm), Ls ++ L, c0 + mc, s0 + ms⟩,
      ⟨X.admits, X.cas, X.clock, X.frames, X.room, X.hears, X.method, X.code, (X.here.setHeapUsed s₂.heap s₂.slotsUsed).setVm hW'.alike, X.tail, State.WarmedH.trans X.warmed hW', X.limits, X.bytes, X.same.trans (hsame.setVm s.vm)⟩,
      ⟨g, mk, s₂, L, E, ce, rfl, rfl, hx, hce, hcv, hcl, rfl, hL, rfl, rfl⟩, ?_⟩
    show Steps p.tables e below _ (((({ U with heap := s₂.heap, slotsUsed := s₂.slotsUsed } : State).setVm s₂.vm).setTop g).pushFrame (.throwing q))
    rw [← hs₂]
    exact hsteps
end Payer
section Calls
variable {p : Program} {l : Launch} {e : Env} {R : Room} {s : State} {m : MethodId} {args : Array Value} {below : List Frame} {meth : Method} {c : Code} {T : State} {locs : List Loc} {cells slots : Nat}
theorem vx_callV (X : Stand p l e R s m args below meth c T locs cells slots) (hexec : p.tables.exec = Jvm.exec) {own C : String} {index : Nat} {y : MethodName} {bytes : ByteArray} {maxL : Nat} {ret : Option FieldType}
    (hown : s.vm.findClass own = some m.cls) (hlink : (Cond.methodLink own index y).before args s = true) (hinst : (Cond.instanceMethod y).before args s = true) (hsel : (Cond.selects C y y).before args s = true)
    (hcode : (Cond.code y bytes maxL ret).before args s = true) (hy : y.cls ≠ "java/lang/invoke/MethodHandle" ∧ y.cls ≠ "java/lang/invoke/VarHandle")
    {W9 : Nat} {Pre : Pt → Array Value → Prop} {Post : Pt → Array Value → Option Value → Pt → Prop} {PostX : Pt → Array Value → Addr → Pt → Prop} (hK : vx_Back l R p e below s args y 3 W9 Pre Post PostX)
    {b : Addr} {cellB : Cell} (hcell : T.heap[b]? = some cellB) (hobj : cellB.vm.isStatics = false) (hcls : s.vm.findClass C = some cellB.cls)
    {g : JFrame} (hg : g.method = m) (hsize : g.locals.size = c.maxLocals) {argsL rest : List Value} (hlen : ∀ sig, parseMethodDescriptor y.desc = some sig → argsL.length = sig.parameters.length)
    (hstack : g.stack = argsL.reverse ++ .ref b :: rest) (hW : 2 * g.monitorRoom + (rest.map fun v => v.category).sum ≤ W9) (hdg : decode c.code g.pc = .ok (.invokevirtual index, 3))
    (hpre : ∀ vm₁, s.WarmedH vm₁ → Pre ⟨T.setVm vm₁, locs, cells, slots⟩ (Value.ref b :: argsL).toArray) :
    (∃ (v : Option Value) (vm₁ : Vm) (B : Pt), s.WarmedH vm₁ ∧ Stand p l e R s m args below meth c B.U B.locs B.cells B.slots ∧ Post ⟨T.setVm vm₁, locs, cells, slots⟩ (Value.ref b :: argsL).toArray v B ∧
      ∀ target, Steps p.tables e below (B.U.setTop { g with pc := g.pc + 3, stack := v.toList ++ rest }) target → Steps p.tables e below (T.setTop g) target) ∨
    (∃ (q : Addr) (vm₁ : Vm) (B : Pt), s.WarmedH vm₁ ∧ Stand p l e R s m args below meth c B.U B.locs B.cells B.slots ∧ PostX ⟨T.setVm vm₁, locs, cells, slots⟩ (Value.ref b :: argsL).toArray q B ∧
      Steps p.tables e below (T.setTop g) ((B.U.setTop { g with stack := rest }).pushFrame (.throwing q))) := by
  obtain ⟨mk, methM, hnamed, hmethM, hstM, habM⟩ := Cond.instanceMethod_spec hinst
  obtain ⟨methM', cM, hmethM', -, -, -, -, -, -, hsigM⟩ := Cond.code_spec hnamed hcode
  cases hmethM.symm.trans hmethM'
  obtain ⟨c2, r2, m2, q1, q2, q3, q4, kP, hkP, hkPi⟩ := Cond.selects_spec hsel
  cases hcls.symm.trans q1
  cases (State.methodFound?_of_named hnamed hy).symm.trans q2
  cases hnamed.symm.trans q3
  have hselP : selectMethod e.platform s.vm cellB.cls mk = .method mk := by rw [Launch.admits_selectMethod X.admits]; exact q4
  obtain ⟨vm₁, X₁, hstep₁⟩ := X.invokevirtual hexec hown hlink hnamed hmethM hstM hkP hkPi hy (a := b) (cell := cellB) hcell
    (fun z h => by rw [h] at hobj; cases hobj) hselP hmethM habM hkP hkPi (g := g) hg (argsL := argsL) (rest := rest) (hlen _ hsigM) hstack hdg
  rcases hK m meth c ⟨T.setVm vm₁, locs, cells, slots⟩ { g with stack := rest } (.invokevirtual index) mk (Value.ref b :: argsL).toArray X₁ hg hsize hdg hW (X₁.named hnamed) (hpre vm₁ X₁.warmed) with ⟨v, B, X', hpost, hsteps⟩ | ⟨q, B, X', hpost, hsteps⟩
  · exact Or.inl ⟨v, vm₁, B, X₁.warmed, X', hpost, fun target h => hstep₁ _ fun acts => by rw [doInvoke_state]; exact hsteps.trans h⟩
  · exact Or.inr ⟨q, vm₁, B, X₁.warmed, X', hpost, hstep₁ _ fun acts => by rw [doInvoke_state]; exact hsteps⟩
theorem vx_callS (X : Stand p l e R s m args below meth c T locs cells slots) (hexec : p.tables.exec = Jvm.exec) {own : String} {index : Nat} {y : MethodName} {bytes : ByteArray} {maxL : Nat} {ret : Option FieldType}
    (hown : s.vm.findClass own = some m.cls) (hlink : (Cond.methodLink own index y).before args s = true) (hstat : (Cond.static y).before args s = true) (hinit : (Cond.initialized y.cls).before args s = true)
    (hcode : (Cond.code y bytes maxL ret).before args s = true) (hy : y.cls ≠ "java/lang/invoke/MethodHandle" ∧ y.cls ≠ "java/lang/invoke/VarHandle")
    {W9 : Nat} {Pre : Pt → Array Value → Prop} {Post : Pt → Array Value → Option Value → Pt → Prop} {PostX : Pt → Array Value → Addr → Pt → Prop} (hK : vx_Back l R p e below s args y 3 W9 Pre Post PostX)
    {g : JFrame} (hg : g.method = m) (hsize : g.locals.size = c.maxLocals) {argsL rest : List Value} (hlen : ∀ sig, parseMethodDescriptor y.desc = some sig → argsL.length = sig.parameters.length)
    (hstack : g.stack = argsL.reverse ++ rest) (hW : 2 * g.monitorRoom + (rest.map fun v => v.category).sum ≤ W9) (hdg : decode c.code g.pc = .ok (.invokestatic index, 3))
    (hpre : ∀ vm₁, s.WarmedH vm₁ → Pre ⟨T.setVm vm₁, locs, cells, slots⟩ argsL.toArray) :
    (∃ (v : Option Value) (vm₁ : Vm) (B : Pt), s.WarmedH vm₁ ∧ Stand p l e R s m args below meth c B.U B.locs B.cells B.slots ∧ Post ⟨T.setVm vm₁, locs, cells, slots⟩ argsL.toArray v B ∧
      ∀ target, Steps p.tables e below (B.U.setTop { g with pc := g.pc + 3, stack := v.toList ++ rest }) target → Steps p.tables e below (T.setTop g) target) ∨
    (∃ (q : Addr) (vm₁ : Vm) (B : Pt), s.WarmedH vm₁ ∧ Stand p l e R s m args below meth c B.U B.locs B.cells B.slots ∧ PostX ⟨T.setVm vm₁, locs, cells, slots⟩ argsL.toArray q B ∧
      Steps p.tables e below (T.setTop g) ((B.U.setTop { g with stack := rest }).pushFrame (.throwing q))) := by
  obtain ⟨mk, hnamed⟩ := Cond.code_named hcode
  obtain ⟨methM, cM, hmethM, -, -, -, -, -, -, hsigM⟩ := Cond.code_spec hnamed hcode
  have hstatic : methM.isStatic = true := Cond.static_spec hnamed hmethM hstat
  obtain ⟨kP, hkP, -⟩ := className_of_methodNamed hnamed
  have hinitP : kP.init = .initialized := Cond.initialized_spec (findClass_of_methodNamed hnamed) hkP hinit
  obtain ⟨vm₁, X₁, hstep₁⟩ := X.invokestatic hexec hown hlink hnamed hmethM hstatic hkP hinitP hy (g := g) hg (argsL := argsL) (rest := rest) (hlen _ hsigM) hstack hdg
  rcases hK m meth c ⟨T.setVm vm₁, locs, cells, slots⟩ { g with stack := rest } (.invokestatic index) mk argsL.toArray X₁ hg hsize hdg hW (X₁.named hnamed) (hpre vm₁ X₁.warmed) with ⟨v, B, X', hpost, hsteps⟩ | ⟨q, B, X', hpost, hsteps⟩
  · exact Or.inl ⟨v, vm₁, B, X₁.warmed, X', hpost, fun target h => hstep₁ _ fun acts => by rw [doInvoke_state]; exact hsteps.trans h⟩
  · exact Or.inr ⟨q, vm₁, B, X₁.warmed, X', hpost, hstep₁ _ fun acts => by rw [doInvoke_state]; exact hsteps⟩
end Calls
theorem vx_cls {s : State} {T : State} {vm₁ : Vm} {E : String} {k : ClassId} (hW : s.WarmedH vm₁) (h : (T.setVm vm₁).vm.findClass E = some k) : s.vm.findClass E = some k := by
  have h1 : vm₁.findClass E = some k := h
  rw [hW.alike.findClass] at h1
  exact h1
/-- the method's frame g, with q thrown over it -/
def vx_W (p : Program) (l : Launch) (e : Env) (R : Room) (s : State) (m : MethodId) (args : Array Value) (below : List Frame) (meth : Method) (c : Code) (H : Heap) (locs : List Loc) (cells slots : Nat) (Q : State → Prop) (g : JFrame) (q : Addr) : Prop :=
  ∀ T : State, T.heap = H → Stand p l e R s m args below meth c T locs cells slots → ∃ t, Steps p.tables e below ((T.setTop g).pushFrame (.throwing q)) t ∧ Q t
def vx_Run (p : Program) (l : Launch) (e : Env) (R : Room) (s : State) (m : MethodId) (args : Array Value) (below : List Frame) (meth : Method) (c : Code) (H : Heap) (locs : List Loc) (cells slots mc ms : Nat) (g : JFrame) (rest : List Value) (Qa : State → Outcome → State → Prop) (XC : String → State → State → Prop) (free : Addr → Prop) : Prop :=
  ∀ T : State, T.heap = H → Stand p l e R s m args below meth c T locs cells slots →
    (∃ (v : Option Value) (st₀ t T' : State) (L : List Loc), st₀.heap = H ∧ Stand p l e R s m args below meth c T' (locs ++ L) (cells + mc) (slots + ms) ∧ (∀ q ∈ L, free q.base) ∧ T'.heap = t.heap ∧ T'.vm = t.vm ∧ Qa st₀ (.returned v) t ∧
      Goes p e below T g T' { g with pc := g.pc + 3, stack := v.toList ++ rest }) ∨
    (∃ (q : Addr) (st₀ t T' : State) (L : List Loc) (E : String) (ce : Cell), st₀.heap = H ∧ Stand p l e R s m args below meth c T' (locs ++ L) (cells + mc) (slots + ms) ∧ (∀ z ∈ L, free z.base) ∧ T'.heap = t.heap ∧ T'.vm = t.vm ∧ XC E st₀ t ∧ t.heap[q]? = some ce ∧ ce.vm = .none ∧ s.vm.findClass E = some ce.cls ∧
      Steps p.tables e below (T.setTop g) ((T'.setTop { g with stack := rest }).pushFrame (.throwing q)))
def vx_X {S : Type} (px : S → Prop) (B : String → S → State → Prop) (A : Nat → Prop) : String → State → State → Prop := fun E st t => ∃ u : S, px u ∧ B E u t ∧ va_F A st t
section Runs
variable {p : Program} {l : Launch} {e : Env} {R : Room} {s : State} {m : MethodId} {args : Array Value} {below : List Frame} {meth : Method} {c : Code} {H : Heap} {locs : List Loc} {cells slots : Nat}
variable {y : MethodName} {bytes cc : ByteArray} {maxL nL mc ms n index : Nat} {ret : Option FieldType} {ws : List Cond} {rm : Room} {Pc : Array Value → State → Prop} {Qc : Array Value → State → Outcome → State → Prop} {XC : String → State → State → Prop} {free : Addr → Prop} {Ts : List Cond} {own C : String} {b : Addr} {As rest : List Value} {g : JFrame}
theorem vx_callBack (cb : CallB R s args own index y bytes maxL ret ws rm mc ms n) (hM : vx_Met l y ws rm Pc Qc XC mc ms free) (hbl : FrameBlind Pc) : vx_Back l R p e below s args y 3 8 (PreOf R mc ms Pc) (PostOf Qc mc ms free) (vx_Post XC mc ms free) := by
  obtain ⟨hrc, hrs, hfr, hlo, hws, hcw, -, hini, -⟩ := cb
  exact vx_back (bytes := bytes) (maxL := maxL) (ret := ret) hM hbl hrc hrs hfr hlo hws hcw (fun a' U hW => word_at hW (Or.inl (by first | rfl | simp [Cond.onTables, Cond.keeps, Cond.steady])) hini)
theorem vx_runV (S : CallFix p m c cc nL s args Ts own) (hM : vx_Met l y ws rm Pc Qc XC mc ms free) (cw : CallW R s args own C index y bytes maxL ret ws rm mc ms n) (hp : PreV s H C b Pc As)
    (hg : g.method = m) (hn : As.length = n) (hsize : g.locals.size = nL) (hstack : g.stack = As.reverse ++ .ref b :: rest) (hW : 2 * g.monitorRoom + (rest.map fun v => v.category).sum ≤ 8) (hdg : decode cc g.pc = .ok (.invokevirtual index, 3)) (hf : cells + mc ≤ R.cells ∧ slots + ms ≤ R.slots) :
    vx_Run p l e R s m args below meth c H locs cells slots mc ms g rest (Qc (Value.ref b :: As).toArray) XC free := by
  have hK : vx_Back l R p e below s args y 3 8 (PreOf R mc ms Pc) (PostOf Qc mc ms free) (vx_Post XC mc ms free) := vx_callBack cw.1 hM hp.1
  obtain ⟨⟨-, -, -, -, -, -, hcode, -, hy, hlen, hl⟩, hin, hse⟩ := cw
  obtain ⟨hx, hb, hml, ho, -⟩ := S
  obtain ⟨-, ⟨cellB, hcB, hoB, hclB⟩, hPc⟩ := hp
  intro T hT X
  rcases vx_callV X hx (C := C) (bytes := bytes) (maxL := maxL) (ret := ret) ho hl hin hse hcode hy hK (by rw [hT]; exact hcB) hoB hclB hg (hsize.trans hml.symm) (argsL := As) (rest := rest) (fun sig h => hn.trans (hlen sig h)) hstack hW (by rw [hb]; exact hdg)
    (fun vm₁ hW₁ => ⟨hf.1, hf.2, hPc (T.setVm vm₁) hT hW₁⟩) with ⟨v, vm₁, ⟨U', l2, c2, s2⟩, hW₁, X', ⟨g', mk, t, L, e1, e2, hq, h1, hL, h2, h3⟩, st⟩ | ⟨q, vm₁, ⟨U', l2, c2, s2⟩, hW₁, X', ⟨g', mk, t, L, E, ce, e1, e2, hq, hce, hcv, hcl, h1, hL, h2, h3⟩, st⟩
  · dsimp only [Pt.U, Pt.locs, Pt.cells, Pt.slots] at X' e1 e2 h1 h2 h3 st
    subst h1; subst h2; subst h3
    exact Or.inl ⟨v, (T.setVm vm₁).calling g' mk (Value.ref b :: As).toArray, t, U', L, hT, X', hL, e1, e2, hq, st⟩
  · dsimp only [Pt.U, Pt.locs, Pt.cells, Pt.slots] at X' e1 e2 h1 h2 h3 st hcl
    subst h1; subst h2; subst h3
    exact Or.inr ⟨q, (T.setVm vm₁).calling g' mk (Value.ref b :: As).toArray, t, U', L, E, ce, hT, X', hL, e1, e2, hq, hce, hcv, vx_cls hW₁ hcl, st⟩
theorem vx_runS (S : CallFix p m c cc nL s args Ts own) (hM : vx_Met l y ws rm Pc Qc XC mc ms free) (cw : CallB R s args own index y bytes maxL ret ws rm mc ms n ∧ (Cond.static y).before args s = true) (hp : PreS s H Pc As)
    (hg : g.method = m) (hn : As.length = n) (hsize : g.locals.size = nL) (hstack : g.stack = As.reverse ++ rest) (hW : 2 * g.monitorRoom + (rest.map fun v => v.category).sum ≤ 8) (hdg : decode cc g.pc = .ok (.invokestatic index, 3)) (hf : cells + mc ≤ R.cells ∧ slots + ms ≤ R.slots) :
    vx_Run p l e R s m args below meth c H locs cells slots mc ms g rest (Qc As.toArray) XC free := by
  have hK : vx_Back l R p e below s args y 3 8 (PreOf R mc ms Pc) (PostOf Qc mc ms free) (vx_Post XC mc ms free) := vx_callBack cw.1 hM hp.1
  obtain ⟨⟨-, -, -, -, -, -, hcode, hini, hy, hlen, hl⟩, hstt⟩ := cw
  obtain ⟨hx, hb, hml, ho, -⟩ := S
  intro T hT X
  rcases vx_callS X hx (bytes := bytes) (maxL := maxL) (ret := ret) ho hl hstt hini hcode hy hK hg (hsize.trans hml.symm) (argsL := As) (rest := rest) (fun sig h => hn.trans (hlen sig h)) hstack hW (by rw [hb]; exact hdg)
    (fun vm₁ hW₁ => ⟨hf.1, hf.2, hp.2 (T.setVm vm₁) hT hW₁⟩) with ⟨v, vm₁, ⟨U', l2, c2, s2⟩, hW₁, X', ⟨g', mk, t, L, e1, e2, hq, h1, hL, h2, h3⟩, st⟩ | ⟨q, vm₁, ⟨U', l2, c2, s2⟩, hW₁, X', ⟨g', mk, t, L, E, ce, e1, e2, hq, hce, hcv, hcl, h1, hL, h2, h3⟩, st⟩
  · dsimp only [Pt.U, Pt.locs, Pt.cells, Pt.slots] at X' e1 e2 h1 h2 h3 st
    subst h1; subst h2; subst h3
    exact Or.inl ⟨v, (T.setVm vm₁).calling g' mk As.toArray, t, U', L, hT, X', hL, e1, e2, hq, st⟩
  · dsimp only [Pt.U, Pt.locs, Pt.cells, Pt.slots] at X' e1 e2 h1 h2 h3 st hcl
    subst h1; subst h2; subst h3
    exact Or.inr ⟨q, (T.setVm vm₁).calling g' mk As.toArray, t, U', L, E, ce, hT, X', hL, e1, e2, hq, hce, hcv, vx_cls hW₁ hcl, st⟩
end Runs
section Rows
variable {p : Program} {l : Launch} {e : Env} {R : Room} {s : State} {m : MethodId} {args : Array Value} {below : List Frame} {meth : Method} {c : Code} {H : Heap} {locs : List Loc} {cells slots : Nat} {Q : State → Prop}
variable {mc ms : Nat} {free : Addr → Prop} {A0 A1 : Nat → Prop} {H0 : Heap} {a : Array Value} {pc : Nat} {ls : Array Slot} {st0 rest : List Value}
theorem vx_keep {st₀ t T' : State} {L : List Loc} (h0 : st₀.heap = H) (e1 : T'.heap = t.heap) (hS : va_S A0 H0 H locs) (hA : ∀ q, q < H.size → A1 q → A0 q) (hf : ∀ q, free q → A0 q) (hL : ∀ q ∈ L, free q.base) (hF : va_F A1 st₀ t) :
    H.size ≤ T'.heap.size ∧ (∀ q : Nat, q < H.size → ¬ A1 q → T'.heap[q]? = H[q]?) ∧ va_S A0 H0 T'.heap (locs ++ L) := by
  obtain ⟨hz, hk⟩ := hF
  rw [h0] at hz hk
  exact ⟨by rw [e1]; exact hz, fun q h1 h2 => by rw [e1]; exact hk q h1 h2,
    ⟨Nat.le_trans hS.1 (by rw [e1]; exact hz), fun q h1 h2 => by rw [e1, hk q (Nat.lt_of_lt_of_le h1 hS.1) (fun z => h2 (hA q (Nat.lt_of_lt_of_le h1 hS.1) z))]; exact hS.2.1 q h1 h2, fun q hq => by
      rcases List.mem_append.mp hq with h | h
      · exact hS.2.2 q h
      · exact hf _ (hL q h)⟩⟩
theorem vx_calli {S SX : Type} {post : Int32 → S → Prop} {px : SX → Prop} {B : S → State → Prop} {BX : String → SX → State → Prop} {AX : Nat → Prop} (hr : vx_Run p l e R s m args below meth c H locs cells slots mc ms (F0 m pc ls st0) rest (va_Qi post B A1 a) (vx_X px BX AX) free) (hS : va_S A0 H0 H locs) (hA : ∀ q, q < H.size → A1 q → A0 q) (hf : ∀ q, free q → A0 q) (hAX : ∀ q, q < H.size → AX q → A0 q)
    (kx : ∀ (E : String) (ce : Cell) (q9 : Addr) (u : SX) (t : State) (H1 : Heap) (locs1 : List Loc), t.heap = H1 → s.vm.Alike t.vm → px u → BX E u t → H.size ≤ H1.size → (∀ q : Nat, q < H.size → ¬ AX q → H1[q]? = H[q]?) → va_S A0 H0 H1 locs1 → H1[q9]? = some ce → ce.vm = .none → s.vm.findClass E = some ce.cls → vx_W p l e R s m args below meth c H1 locs1 (cells + mc) (slots + ms) Q (F0 m pc ls rest) q9)
    (kk : ∀ (r : Int32) (u : S) (t : State) (H1 : Heap) (locs1 : List Loc), t.heap = H1 → s.vm.Alike t.vm → post r u → B u t → H.size ≤ H1.size → (∀ q : Nat, q < H.size → ¬ A1 q → H1[q]? = H[q]?) → va_S A0 H0 H1 locs1 → W p l e R s m args below meth c H1 locs1 (cells + mc) (slots + ms) Q (F0 m (pc + 3) ls (.int r :: rest))) : W p l e R s m args below meth c H locs cells slots Q (F0 m pc ls st0) := by
  intro T hT X
  rcases hr T hT X with ⟨v, st₀, t, T', L, h0, X', hL, e1, e2, ⟨⟨r, u, hv, hp, hb⟩, hF⟩, st⟩ | ⟨q, st₀, t, T', L, E, ce, h0, X', hL, e1, e2, ⟨u, hp, hb, hF⟩, hce, hcv, hcl, st⟩
  · cases hv
    obtain ⟨k1, k2, k3⟩ := vx_keep h0 e1 hS hA hf hL hF
    obtain ⟨t2, a1, b1⟩ := kk r u t T'.heap (locs ++ L) e1.symm (by rw [← e2]; exact X'.warmed.alike) hp hb k1 k2 k3 T' rfl X'
    exact ⟨t2, st t2 a1, b1⟩
  · obtain ⟨k1, k2, k3⟩ := vx_keep h0 e1 hS hAX hf hL hF
    obtain ⟨t2, a1, b1⟩ := kx E ce q u t T'.heap (locs ++ L) e1.symm (by rw [← e2]; exact X'.warmed.alike) hp hb k1 k2 k3 (by rw [e1]; exact hce) hcv hcl T' rfl X'
    exact ⟨t2, st.trans a1, b1⟩
theorem vx_calll {S SX : Type} {post : Int64 → S → Prop} {px : SX → Prop} {B : S → State → Prop} {BX : String → SX → State → Prop} {AX : Nat → Prop} (hr : vx_Run p l e R s m args below meth c H locs cells slots mc ms (F0 m pc ls st0) rest (va_Ql post B A1 a) (vx_X px BX AX) free) (hS : va_S A0 H0 H locs) (hA : ∀ q, q < H.size → A1 q → A0 q) (hf : ∀ q, free q → A0 q) (hAX : ∀ q, q < H.size → AX q → A0 q)
    (kx : ∀ (E : String) (ce : Cell) (q9 : Addr) (u : SX) (t : State) (H1 : Heap) (locs1 : List Loc), t.heap = H1 → s.vm.Alike t.vm → px u → BX E u t → H.size ≤ H1.size → (∀ q : Nat, q < H.size → ¬ AX q → H1[q]? = H[q]?) → va_S A0 H0 H1 locs1 → H1[q9]? = some ce → ce.vm = .none → s.vm.findClass E = some ce.cls → vx_W p l e R s m args below meth c H1 locs1 (cells + mc) (slots + ms) Q (F0 m pc ls rest) q9)
    (kk : ∀ (r : Int64) (u : S) (t : State) (H1 : Heap) (locs1 : List Loc), t.heap = H1 → s.vm.Alike t.vm → post r u → B u t → H.size ≤ H1.size → (∀ q : Nat, q < H.size → ¬ A1 q → H1[q]? = H[q]?) → va_S A0 H0 H1 locs1 → W p l e R s m args below meth c H1 locs1 (cells + mc) (slots + ms) Q (F0 m (pc + 3) ls (.long r :: rest))) : W p l e R s m args below meth c H locs cells slots Q (F0 m pc ls st0) := by
  intro T hT X
  rcases hr T hT X with ⟨v, st₀, t, T', L, h0, X', hL, e1, e2, ⟨⟨r, u, hv, hp, hb⟩, hF⟩, st⟩ | ⟨q, st₀, t, T', L, E, ce, h0, X', hL, e1, e2, ⟨u, hp, hb, hF⟩, hce, hcv, hcl, st⟩
  · cases hv
    obtain ⟨k1, k2, k3⟩ := vx_keep h0 e1 hS hA hf hL hF
    obtain ⟨t2, a1, b1⟩ := kk r u t T'.heap (locs ++ L) e1.symm (by rw [← e2]; exact X'.warmed.alike) hp hb k1 k2 k3 T' rfl X'
    exact ⟨t2, st t2 a1, b1⟩
  · obtain ⟨k1, k2, k3⟩ := vx_keep h0 e1 hS hAX hf hL hF
    obtain ⟨t2, a1, b1⟩ := kx E ce q u t T'.heap (locs ++ L) e1.symm (by rw [← e2]; exact X'.warmed.alike) hp hb k1 k2 k3 (by rw [e1]; exact hce) hcv hcl T' rfl X'
    exact ⟨t2, st.trans a1, b1⟩
theorem vx_callf {S SX : Type} {post : UInt32 → S → Prop} {px : SX → Prop} {B : S → State → Prop} {BX : String → SX → State → Prop} {AX : Nat → Prop} (hr : vx_Run p l e R s m args below meth c H locs cells slots mc ms (F0 m pc ls st0) rest (va_Qf post B A1 a) (vx_X px BX AX) free) (hS : va_S A0 H0 H locs) (hA : ∀ q, q < H.size → A1 q → A0 q) (hf : ∀ q, free q → A0 q) (hAX : ∀ q, q < H.size → AX q → A0 q)
    (kx : ∀ (E : String) (ce : Cell) (q9 : Addr) (u : SX) (t : State) (H1 : Heap) (locs1 : List Loc), t.heap = H1 → s.vm.Alike t.vm → px u → BX E u t → H.size ≤ H1.size → (∀ q : Nat, q < H.size → ¬ AX q → H1[q]? = H[q]?) → va_S A0 H0 H1 locs1 → H1[q9]? = some ce → ce.vm = .none → s.vm.findClass E = some ce.cls → vx_W p l e R s m args below meth c H1 locs1 (cells + mc) (slots + ms) Q (F0 m pc ls rest) q9)
    (kk : ∀ (r : UInt32) (u : S) (t : State) (H1 : Heap) (locs1 : List Loc), t.heap = H1 → s.vm.Alike t.vm → post r u → B u t → H.size ≤ H1.size → (∀ q : Nat, q < H.size → ¬ A1 q → H1[q]? = H[q]?) → va_S A0 H0 H1 locs1 → W p l e R s m args below meth c H1 locs1 (cells + mc) (slots + ms) Q (F0 m (pc + 3) ls (.float r :: rest))) : W p l e R s m args below meth c H locs cells slots Q (F0 m pc ls st0) := by
  intro T hT X
  rcases hr T hT X with ⟨v, st₀, t, T', L, h0, X', hL, e1, e2, ⟨⟨r, u, hv, hp, hb⟩, hF⟩, st⟩ | ⟨q, st₀, t, T', L, E, ce, h0, X', hL, e1, e2, ⟨u, hp, hb, hF⟩, hce, hcv, hcl, st⟩
  · cases hv
    obtain ⟨k1, k2, k3⟩ := vx_keep h0 e1 hS hA hf hL hF
    obtain ⟨t2, a1, b1⟩ := kk r u t T'.heap (locs ++ L) e1.symm (by rw [← e2]; exact X'.warmed.alike) hp hb k1 k2 k3 T' rfl X'
    exact ⟨t2, st t2 a1, b1⟩
  · obtain ⟨k1, k2, k3⟩ := vx_keep h0 e1 hS hAX hf hL hF
    obtain ⟨t2, a1, b1⟩ := kx E ce q u t T'.heap (locs ++ L) e1.symm (by rw [← e2]; exact X'.warmed.alike) hp hb k1 k2 k3 (by rw [e1]; exact hce) hcv hcl T' rfl X'
    exact ⟨t2, st.trans a1, b1⟩
theorem vx_calld {S SX : Type} {post : UInt64 → S → Prop} {px : SX → Prop} {B : S → State → Prop} {BX : String → SX → State → Prop} {AX : Nat → Prop} (hr : vx_Run p l e R s m args below meth c H locs cells slots mc ms (F0 m pc ls st0) rest (va_Qd post B A1 a) (vx_X px BX AX) free) (hS : va_S A0 H0 H locs) (hA : ∀ q, q < H.size → A1 q → A0 q) (hf : ∀ q, free q → A0 q) (hAX : ∀ q, q < H.size → AX q → A0 q)
    (kx : ∀ (E : String) (ce : Cell) (q9 : Addr) (u : SX) (t : State) (H1 : Heap) (locs1 : List Loc), t.heap = H1 → s.vm.Alike t.vm → px u → BX E u t → H.size ≤ H1.size → (∀ q : Nat, q < H.size → ¬ AX q → H1[q]? = H[q]?) → va_S A0 H0 H1 locs1 → H1[q9]? = some ce → ce.vm = .none → s.vm.findClass E = some ce.cls → vx_W p l e R s m args below meth c H1 locs1 (cells + mc) (slots + ms) Q (F0 m pc ls rest) q9)
    (kk : ∀ (r : UInt64) (u : S) (t : State) (H1 : Heap) (locs1 : List Loc), t.heap = H1 → s.vm.Alike t.vm → post r u → B u t → H.size ≤ H1.size → (∀ q : Nat, q < H.size → ¬ A1 q → H1[q]? = H[q]?) → va_S A0 H0 H1 locs1 → W p l e R s m args below meth c H1 locs1 (cells + mc) (slots + ms) Q (F0 m (pc + 3) ls (.double r :: rest))) : W p l e R s m args below meth c H locs cells slots Q (F0 m pc ls st0) := by
  intro T hT X
  rcases hr T hT X with ⟨v, st₀, t, T', L, h0, X', hL, e1, e2, ⟨⟨r, u, hv, hp, hb⟩, hF⟩, st⟩ | ⟨q, st₀, t, T', L, E, ce, h0, X', hL, e1, e2, ⟨u, hp, hb, hF⟩, hce, hcv, hcl, st⟩
  · cases hv
    obtain ⟨k1, k2, k3⟩ := vx_keep h0 e1 hS hA hf hL hF
    obtain ⟨t2, a1, b1⟩ := kk r u t T'.heap (locs ++ L) e1.symm (by rw [← e2]; exact X'.warmed.alike) hp hb k1 k2 k3 T' rfl X'
    exact ⟨t2, st t2 a1, b1⟩
  · obtain ⟨k1, k2, k3⟩ := vx_keep h0 e1 hS hAX hf hL hF
    obtain ⟨t2, a1, b1⟩ := kx E ce q u t T'.heap (locs ++ L) e1.symm (by rw [← e2]; exact X'.warmed.alike) hp hb k1 k2 k3 (by rw [e1]; exact hce) hcv hcl T' rfl X'
    exact ⟨t2, st.trans a1, b1⟩
theorem vx_callv {S SX : Type} {post : S → Prop} {px : SX → Prop} {B : S → State → Prop} {BX : String → SX → State → Prop} {AX : Nat → Prop} (hr : vx_Run p l e R s m args below meth c H locs cells slots mc ms (F0 m pc ls st0) rest (va_Qv post B A1 a) (vx_X px BX AX) free) (hS : va_S A0 H0 H locs) (hA : ∀ q, q < H.size → A1 q → A0 q) (hf : ∀ q, free q → A0 q) (hAX : ∀ q, q < H.size → AX q → A0 q)
    (kx : ∀ (E : String) (ce : Cell) (q9 : Addr) (u : SX) (t : State) (H1 : Heap) (locs1 : List Loc), t.heap = H1 → s.vm.Alike t.vm → px u → BX E u t → H.size ≤ H1.size → (∀ q : Nat, q < H.size → ¬ AX q → H1[q]? = H[q]?) → va_S A0 H0 H1 locs1 → H1[q9]? = some ce → ce.vm = .none → s.vm.findClass E = some ce.cls → vx_W p l e R s m args below meth c H1 locs1 (cells + mc) (slots + ms) Q (F0 m pc ls rest) q9)
    (kk : ∀ (u : S) (t : State) (H1 : Heap) (locs1 : List Loc), t.heap = H1 → s.vm.Alike t.vm → post u → B u t → H.size ≤ H1.size → (∀ q : Nat, q < H.size → ¬ A1 q → H1[q]? = H[q]?) → va_S A0 H0 H1 locs1 → W p l e R s m args below meth c H1 locs1 (cells + mc) (slots + ms) Q (F0 m (pc + 3) ls (rest))) : W p l e R s m args below meth c H locs cells slots Q (F0 m pc ls st0) := by
  intro T hT X
  rcases hr T hT X with ⟨v, st₀, t, T', L, h0, X', hL, e1, e2, ⟨⟨u, hv, hp, hb⟩, hF⟩, st⟩ | ⟨q, st₀, t, T', L, E, ce, h0, X', hL, e1, e2, ⟨u, hp, hb, hF⟩, hce, hcv, hcl, st⟩
  · cases hv
    obtain ⟨k1, k2, k3⟩ := vx_keep h0 e1 hS hA hf hL hF
    obtain ⟨t2, a1, b1⟩ := kk u t T'.heap (locs ++ L) e1.symm (by rw [← e2]; exact X'.warmed.alike) hp hb k1 k2 k3 T' rfl X'
    exact ⟨t2, st t2 a1, b1⟩
  · obtain ⟨k1, k2, k3⟩ := vx_keep h0 e1 hS hAX hf hL hF
    obtain ⟨t2, a1, b1⟩ := kx E ce q u t T'.heap (locs ++ L) e1.symm (by rw [← e2]; exact X'.warmed.alike) hp hb k1 k2 k3 (by rw [e1]; exact hce) hcv hcl T' rfl X'
    exact ⟨t2, st.trans a1, b1⟩
/-- caught by the row x of this method's table; the rows ahead don't take it -/
theorem vx_catch {own name : String} {E : String} {ce : Cell} {q : Addr} (hown : s.vm.findClass own = some m.cls) (pre : List ExceptionTableEntry) (x : ExceptionTableEntry) (suf : List ExceptionTableEntry) (hsplit : c.exceptionTable.toList = pre ++ x :: suf)
    (hpass : ∀ z ∈ pre, covers z pc = false ∨ (z.catchType ≠ 0 ∧ ∃ nm : String, (Cond.classLink own z.catchType nm).before args s = true ∧ va_Nc E nm s)) (hx : covers x pc = true) (h0 : x.catchType ≠ 0)
    (hlink : (Cond.classLink own x.catchType name).before args s = true) (hcast : (Cond.castable E name).before args s = true) (hcell : H[q]? = some ce) (hv : ce.vm = .none) (hcl : s.vm.findClass E = some ce.cls)
    (kk : W p l e R s m args below meth c H locs cells slots Q (F0 m x.handlerPc ls [.ref q])) : vx_W p l e R s m args below meth c H locs cells slots Q (F0 m pc ls rest) q := by
  intro T hT X
  have hpl : e.platform.magicAccessors = ({} : Platform).magicAccessors := by rw [X.admits.platform]
  obtain ⟨c3, c4, hc3, hc4, hasg⟩ := Cond.castable_spec hcast
  cases Option.some.inj (hc3.symm.trans hcl)
  obtain ⟨c5, hc5, hcl5⟩ := Cond.classLink_spec hown hlink e.platform hpl
  cases Option.some.inj (hc4.symm.trans hc5)
  obtain ⟨vm', X', st⟩ := X.thenCaughtThrough q (g := F0 m pc ls rest) rfl (Steps.refl _) (by rw [hT]; exact hcell) (by rw [hv]; rfl) (by obtain ⟨k9, h9, -⟩ := Vm.findClass_spec hcl; exact ⟨k9, h9⟩) pre x suf hsplit
    (fun z hz => by
      rcases hpass z hz with h | ⟨hz0, nm, hl1, hn1⟩
      · exact Or.inl h
      · obtain ⟨c6, hc6, hcl6⟩ := Cond.classLink_spec hown hl1 e.platform hpl
        obtain ⟨a8, b8, h1, h2, h3⟩ := hn1
        cases Option.some.inj (h1.symm.trans hcl)
        cases Option.some.inj (h2.symm.trans hc6)
        exact Or.inr ⟨hz0, _, hcl6, h3⟩) hx (Or.inr ⟨h0, c4, hcl5, hasg⟩)
  obtain ⟨t, a1, b1⟩ := kk (T.setVm vm') hT X'
  exact ⟨t, st.trans a1, b1⟩
end Rows
section Ends
variable {p : Program} {l : Launch} {e : Env} {R : Room} {s : State} {m : MethodId} {args : Array Value} {below : List Frame} {meth : Method} {c : Code} {H : Heap} {locs : List Loc} {cells slots : Nat} {Q : State → Prop}
variable {mc ms : Nat} {free : Addr → Prop} {A0 A1 : Nat → Prop} {H0 : Heap} {a : Array Value} {ls : Array Slot} {st0 rest : List Value}
variable {Qc : Array Value → State → Outcome → State → Prop} {XC : String → State → State → Prop}
/-- what a body that may throw owes at its end -/
def vx_MQ (below : List Frame) (Qc : Array Value → State → Outcome → State → Prop) (XC : String → State → State → Prop) (a : Array Value) (s : State) (mc ms : Nat) (free : Addr → Prop) : State → Prop := fun t =>
  ∃ o, t.status = .running ∧ Ended t below o ∧ vx_Q Qc XC mc ms free a s o t
theorem vx_ret {g : JFrame} {mc ms : Nat} (k : W p l e R s m args below meth c H locs cells slots (MQ below Qc args s mc ms free) g) : W p l e R s m args below meth c H locs cells slots (vx_MQ below Qc XC args s mc ms free) g := by
  intro T hT X
  obtain ⟨t, a1, o, b1, b2, b3, b4⟩ := k T hT X
  exact ⟨t, a1, o, b1, b2, Or.inl ⟨b3, b4⟩⟩
/-- not caught here: it goes on to the caller -/
theorem vx_widen {g : JFrame} {q : Addr} {k n : Nat} (h1 : cells ≤ k) (h2 : slots ≤ n) (kk : vx_W p l e R s m args below meth c H locs k n Q g q) : vx_W p l e R s m args below meth c H locs cells slots Q g q := fun T hT X => kk T hT (stand_widen X h1 h2)
theorem vx_out {pc : Nat} {E : String} {ce : Cell} {q : Addr} {mc ms : Nat} (hout : ∀ x ∈ c.exceptionTable.toList, covers x pc = false) (hlocks : meth.locks = false) (hcell : H[q]? = some ce) (hv : ce.vm = .none) (hcl : s.vm.findClass E = some ce.cls)
    (hx : ∀ t : State, t.heap = H → s.vm.Alike t.vm → XC E s t) (hf : ∀ z ∈ locs, free z.base) (hc : cells ≤ mc) (hs : slots ≤ ms) :
    vx_W p l e R s m args below meth c H locs cells slots (vx_MQ below Qc XC args s mc ms free) (F0 m pc ls rest) q := by
  intro T hT X
  obtain ⟨st1, hrun, hend, hW, hsm⟩ := X.leaveThrown q (g := F0 m pc ls rest) rfl rfl rfl hout hlocks
  have hcell9 : (T.setFrames (.throwing q :: below)).heap[q]? = some ce := by
    show T.heap[q]? = some ce
    rw [hT]; exact hcell
  exact ⟨_, st1, .threw q, hrun, hend, Or.inr ⟨q, rfl, E, ce, locs, hx _ hT hW.alike, hcell9, hv, hcl, hW, hsm.mono hc hs, hf⟩⟩
theorem vx_frame {U : State} {k n : Nat} (h : s.sameButNew ({ U with vm := s.vm } : State) locs k n) : s.heap.size ≤ U.heap.size ∧ ∀ q : Nat, q < s.heap.size → (∀ z ∈ locs, z.base ≠ q) → U.heap[q]? = s.heap[q]? := by
  obtain ⟨-, h2, -, -, -, h6⟩ := h
  refine ⟨h2, fun q hq hz => ?_⟩
  obtain ⟨c9, e1, e2, e3, e4⟩ := h6 q _ (Array.getElem?_eq_getElem hq)
  have hs : c9.slots = (s.heap[q]).slots := Array.ext_getElem? fun i => e4 i fun hm => hz _ hm rfl
  have h9 : c9 = s.heap[q] := by
    rw [hs] at e2
    exact e2
  have e5 : U.heap[q]? = some c9 := e1
  rw [e5, h9, Array.getElem?_eq_getElem hq]
/-- the words of a throw but the four that speak of the heap -/
def vx_no (w : Cond) : Bool := decide (w ≠ .isRef (.static Bundle.tN "UNASSIGNED_STACK" Bundle.steD)) && decide (w ≠ .isRef (.static Bundle.tN "SUPPRESSED_SENTINEL" Bundle.listD)) && decide (w ≠ .laysStatic Bundle.tN "UNASSIGNED_STACK" Bundle.steD) && decide (w ≠ .laysStatic Bundle.tN "SUPPRESSED_SENTINEL" Bundle.listD)
def vx_at0 (own : String) (ic : Nat) (X : String) (names : List String) : List Cond := (Bundle.ownAtoms0 own ic X names).filter vx_no
def vx_atS (own : String) (ic : Nat) (X : String) (names : List String) : List Cond := (Bundle.ownAtoms own ic X names).filter vx_no
/-- a word that the tables alone decide, or a good one -/
def vx_ot (w : Cond) : Bool := w.onTables || goodWord w
theorem vx_ot_at {args a' : Array Value} {s U : State} {w : Cond} (hW : s.WarmedH U.vm) (hvm : s.vm = U.vm) (hg : vx_ot w = true) (h : w.before args s = true) : w.before a' U = true := by
  simp only [vx_ot, Bool.or_eq_true] at hg
  rcases hg with hg | hg
  · exact va_tabs hg hvm h
  · exact word_at hW (good_of_word hg) h
/-- a list's words: the good ones out of the method's own list, the others by premises of their own -/
theorem vx_hat {args : Array Value} {s : State} {L B : List Cond} (h1 : ∀ w ∈ L.filter goodWord, w.before args s = true) (h2 : ∀ w ∈ L.filter (fun w => !goodWord w), w ∈ B) (h3 : ∀ w ∈ B, w.before args s = true) : ∀ w ∈ L, w.before args s = true := by
  intro w hw
  by_cases g : goodWord w = true
  · exact h1 w (List.mem_filter.mpr ⟨hw, g⟩)
  · refine h3 w (h2 w (List.mem_filter.mpr ⟨hw, ?_⟩))
    show (!goodWord w) = true
    cases hgw : goodWord w
    · rfl
    · exact absurd hgw g
theorem vx_c {args : Array Value} {s : State} {w : Cond} {B : List Cond} (h : w.before args s = true) (t : ∀ w ∈ B, w.before args s = true) : ∀ w' ∈ w :: B, w'.before args s = true := fun w' h' => (List.mem_cons.mp h').elim (fun e => by rw [e]; exact h) (t w')
theorem vx_n {args : Array Value} {s : State} : ∀ w ∈ ([] : List Cond), w.before args s = true := fun _ h => nomatch h
theorem vx_own {args : Array Value} {s : State} {L : List Cond} (h1 : ∀ w ∈ L.filter vx_no, w.before args s = true)
    (hU : (Cond.isRef (.static Bundle.tN "UNASSIGNED_STACK" Bundle.steD)).before args s = true) (hN : (Cond.isRef (.static Bundle.tN "SUPPRESSED_SENTINEL" Bundle.listD)).before args s = true)
    (lU : (Cond.laysStatic Bundle.tN "UNASSIGNED_STACK" Bundle.steD).before args s = true) (lN : (Cond.laysStatic Bundle.tN "SUPPRESSED_SENTINEL" Bundle.listD).before args s = true) : ∀ w ∈ L, w.before args s = true := by
  intro w hw
  by_cases e1 : w = .isRef (.static Bundle.tN "UNASSIGNED_STACK" Bundle.steD)
  · rw [e1]; exact hU
  · by_cases e2 : w = .isRef (.static Bundle.tN "SUPPRESSED_SENTINEL" Bundle.listD)
    · rw [e2]; exact hN
    · by_cases e3 : w = .laysStatic Bundle.tN "UNASSIGNED_STACK" Bundle.steD
      · rw [e3]; exact lU
      · by_cases e4 : w = .laysStatic Bundle.tN "SUPPRESSED_SENTINEL" Bundle.listD
        · rw [e4]; exact lN
        · exact h1 w (List.mem_filter.mpr ⟨hw, by unfold vx_no; rw [decide_eq_true e1, decide_eq_true e2, decide_eq_true e3, decide_eq_true e4]; rfl⟩)
/-- where a static field lies, its class's statics cell in H -/
def vx_L (C n d : String) (A : Nat → Prop) (U : State) (H : Heap) : Prop := ∃ (c : ClassId) (k : Class) (i : Nat) (f : Field) (a : Nat) (cell : Cell), U.vm.findClass C = some c ∧ U.fieldFound? C n d = some (c, k, i, f) ∧ f.isStatic = true ∧ k.statics = some a ∧ H[a]? = some cell ∧ cell.vm.isStatics = true ∧ cell.cls = c ∧ f.slot < cell.slots.size ∧ k.staticTypes[f.slot]? = some f.type ∧ ¬ A a
theorem vx_L.moved {C n d : String} {A : Nat → Prop} {u U : State} {H : Heap} (hvm : u.vm.Alike U.vm) (h : vx_L C n d A u H) : vx_L C n d A U H := by
  obtain ⟨c, k, i, f, a, cell, h1, h2, h3, h4, h5, h6, h7, h8, h9, h10⟩ := h
  obtain ⟨k', hi', he⟩ := State.fieldFound?_setVm hvm h2
  exact ⟨c, k', i, f, a, cell, by rw [hvm.findClass]; exact h1, hi', h3, by rw [he]; exact h4, h5, h6, h7, h8, by rw [he]; exact h9, h10⟩
theorem vx_L.kept {C n d : String} {A : Nat → Prop} {U : State} {H H1 : Heap} (h : vx_L C n d A U H) (hq : ∀ a : Nat, a < H.size → ¬ A a → H1[a]? = H[a]?) : vx_L C n d A U H1 := by
  obtain ⟨c, k, i, f, a, cell, h1, h2, h3, h4, h5, h6, h7, h8, h9, h10⟩ := h
  exact ⟨c, k, i, f, a, cell, h1, h2, h3, h4, by rw [hq a (Array.getElem?_eq_some_iff.mp h5).1 h10]; exact h5, h6, h7, h8, h9, h10⟩
theorem vx_L.narrow {C n d : String} {A B : Nat → Prop} {U : State} {H : Heap} (h : vx_L C n d A U H) (hAB : ∀ q, B q → A q) : vx_L C n d B U H := by
  obtain ⟨c, k, i, f, a, cell, h1, h2, h3, h4, h5, h6, h7, h8, h9, h10⟩ := h
  exact ⟨c, k, i, f, a, cell, h1, h2, h3, h4, h5, h6, h7, h8, h9, fun z => h10 (hAB _ z)⟩
theorem vx_L.word {C n d : String} {A : Nat → Prop} {s : State} {args : Array Value} (h : vx_L C n d A s s.heap) : (Cond.laysStatic C n d).before args s = true := by
  obtain ⟨c, k, i, f, a, cell, h1, h2, h3, h4, h5, h6, h7, h8, h9, -⟩ := h
  show (Cond.laysStatic C n d).holds args s none s [] = true
  exact Cond.laysStatic_of h1 h2 h3 h4 h5 h6 h7 h8 h9
/-- .. and what it holds: null or some reference -/
def vx_Zq (C n d : String) (A : Nat → Prop) (U : State) (H : Heap) : Prop := va_Zq C n d A U H ∧ vx_L C n d A U H
theorem vx_Zq.moved {C n d : String} {A : Nat → Prop} {u U : State} {H : Heap} (hvm : u.vm.Alike U.vm) (h : vx_Zq C n d A u H) : vx_Zq C n d A U H := ⟨va_Zq.moved hvm h.1, vx_L.moved hvm h.2⟩
theorem vx_Zq.kept {C n d : String} {A : Nat → Prop} {U : State} {H H1 : Heap} (h : vx_Zq C n d A U H) (hq : ∀ a : Nat, a < H.size → ¬ A a → H1[a]? = H[a]?) : vx_Zq C n d A U H1 := ⟨va_Zq.kept h.1 hq, vx_L.kept h.2 hq⟩
theorem vx_Zq.narrow {C n d : String} {A B : Nat → Prop} {U : State} {H : Heap} (h : vx_Zq C n d A U H) (hAB : ∀ q, B q → A q) : vx_Zq C n d B U H := ⟨va_Zq.narrow h.1 hAB, vx_L.narrow h.2 hAB⟩
theorem vx_Zqof {args : Array Value} {s : State} {C n d : String} {A : Nat → Prop} (hl : (Cond.laysStatic C n d).before args s = true) (hini : (Cond.initialized C).before args s = true) (h : (Cond.isRef (.static C n d)).before args s = true) (hA : ∀ a : Nat, a < s.heap.size → ¬ A a) : vx_Zq C n d A s s.heap := by
  refine ⟨va_Zqof hl hini h hA, ?_⟩
  obtain ⟨c, k, i, f, a, cell, h1, h2, h3, h4, h5, h6, h7, h8, h9⟩ := Cond.laysStatic_spec hl
  exact ⟨c, k, i, f, a, cell, h1, h2, h3, h4, h5, h6, h7, h8, h9, hA a (Array.getElem?_eq_some_iff.mp h5).1⟩
theorem vx_isRef {C n d : String} {v : Value} {A : Nat → Prop} {s : State} {args : Array Value} (h : va_Z C n d v A s s.heap) (hv : v.isRef = true) : (Cond.isRef (.static C n d)).before args s = true := by
  obtain ⟨cf, kf, fi, f, a, cell, h1, h2, h3, h4, h5, h6, h7, -⟩ := h
  have he : (Term.static C n d).eval args s none [] s = some v := by
    simp [Term.eval, State.fieldNamed?, h1, h2, h4, h5, h6, h7]
  simp only [Cond.before, Cond.holds, Cond.value, he]
  cases v <;> simp_all [Value.isRef]
theorem vx_isRefq {C n d : String} {A : Nat → Prop} {s : State} {args : Array Value} (h : va_Zq C n d A s s.heap) : (Cond.isRef (.static C n d)).before args s = true := by
  rcases h with h | ⟨t, h⟩
  · exact vx_isRef h rfl
  · exact vx_isRef h rfl
/-- the same frame, seen from here: as if the method were called anew in this heap -/
theorem vx_rebase {T : State} (X : Stand p l e R s m args below meth c T locs cells slots) {R' : Room} (hf : R'.frames ≤ R.frames) (hl : R'.locals ≤ R.locals) (hc : cells + R'.cells ≤ R.cells) (hs : slots + R'.slots ≤ R.slots) :
    Stand p l e R' ((T.setVm s.vm).setFrames (.invoking m args :: below)) m args below meth c T [] 0 0 := by
  have htop : (T.setVm s.vm).topJava?.isSome := X.here.top
  have hF : ((T.setVm s.vm).setFrames (.invoking m args :: below)).frames = .invoking m args :: below := State.frames_setFrames _ (State.cur_lt_of_top htop)
  obtain ⟨g₀, hg0⟩ := Option.isSome_iff_exists.mp htop
  obtain ⟨r, hr⟩ := State.topJava?_eq_some.mp hg0
  have hl9 : e.platform.stackLimits (T.setVm s.vm).me = e.platform.stackLimits s.me := X.limits
  have hb9 : (T.setVm s.vm).me.stackBytes = s.me.stackBytes := X.bytes
  refine ⟨X.admits, X.cas, X.clock, hF, ?_, X.hears, X.method, X.code, X.here, X.tail, X.warmed, ?_, ?_, ?_⟩
  · have h := X.room
    have hU : ((T.setVm s.vm).setFrames (.invoking m args :: below)).localsInUse = s.localsInUse := by
      rw [State.localsInUse_invoking hF (meth := meth) (c := c) X.method X.code, State.localsInUse_invoking X.frames X.method X.code]
    simp only [State.hasRoom, Bool.and_eq_true, decide_eq_true_eq] at h ⊢
    obtain ⟨⟨⟨⟨h1, h2, h3, h4, h5, h6⟩, h7⟩, h8⟩, h9⟩ := h
    rw [X.frames, List.length_cons] at h2 h3
    have q1 := X.heapSize
    have q2 := X.used
    simp only [hF, hU, List.length_cons, State.stackLimits_setFrames, State.stackBytes_setFrames, hl9, hb9]
    refine ⟨⟨⟨⟨by omega, by omega, by omega, by omega, by omega, h6⟩, ?_⟩, ?_⟩, X.book⟩
    · show T.heap.size + R'.cells ≤ e.platform.maxCells
      omega
    · show T.slotsUsed + R'.slots ≤ e.platform.maxSlots
      omega
  · rw [State.stackLimits_setFrames]; rfl
  · rw [State.stackBytes_setFrames]; rfl
  · refine ⟨?_, Nat.le_refl _, Nat.le_refl _, ?_, ?_, fun a c9 h9 => ⟨c9, h9, rfl, rfl, fun _ _ => rfl⟩⟩
    · obtain ⟨t, ht, -⟩ := State.frames_cons hr
      show T.setVm s.vm = { ((T.setVm s.vm).setFrames (.invoking m args :: below)).setFrames (T.setVm s.vm).frames with heap := T.heap, slotsUsed := T.slotsUsed }
      rw [State.setFrames_setFrames, State.setFrames_self ht]
      rfl
    · show T.slotsUsed = T.slotsUsed + ((T.heap.toList.drop T.heap.size).map (·.slots.size)).sum
      rw [List.drop_eq_nil_of_le (Nat.le_of_eq Array.length_toList)]
      rfl
    · show ((T.heap.toList.drop T.heap.size).map (·.slots.size)).sum ≤ 0
      rw [List.drop_eq_nil_of_le (Nat.le_of_eq Array.length_toList)]
      exact Nat.le_refl _
/-- 'throw new E()': new; dup; invokespecial; athrow -/
theorem vx_throw0 {cc : ByteArray} {pc : Nat} (hexec : p.tables.exec = Jvm.exec) (hb : c.code = cc) (hl : l.stackTraces = false) {own cls : String} {names : List String} {ik ic mc ms : Nat} {A : Nat → Prop}
    (hown : s.vm.findClass own = some m.cls) (hcls : Bundle.fit cls = true) (hnames : ∀ n ∈ names, Bundle.fit n = true)
    (hk : (Cond.classLink own ik cls).before args s = true) (hini : (Cond.initialized cls).before args s = true) (hat : ∀ w ∈ vx_at0 own ic cls names, w.before args s = true)
    (hgood : ∀ w ∈ Cond.classLink own ik cls :: Cond.initialized cls :: vx_at0 own ic cls names, vx_ot w = true)
    (hU : vx_Zq Bundle.tN "UNASSIGNED_STACK" Bundle.steD A s s.heap) (hN : vx_Zq Bundle.tN "SUPPRESSED_SENTINEL" Bundle.listD A s s.heap) (hS : va_S A s.heap H locs) (hsize : ls.size = c.maxLocals)
    (d0 : decode cc pc = .ok (.new ik, 3)) (d3 : decode cc (pc + 3) = .ok (.dup, 1)) (d4 : decode cc (pc + 4) = .ok (.invokespecial ic, 3)) (d7 : decode cc (pc + 7) = .ok (.athrow, 1))
    (hout : ∀ x ∈ c.exceptionTable.toList, covers x (pc + 7) = false)
    (hRframes : names.length + 3 < R.frames) (hRlocals : (rest.map fun v => v.category).sum + (13 * (names.length + 1) + 42) ≤ R.locals) (hRcells : cells + 1 ≤ R.cells) (hRslots : slots + 6 ≤ R.slots) (hlocks : meth.locks = false)
    (hx : ∀ t : State, s.vm.Alike t.vm → H.size ≤ t.heap.size → (∀ q : Nat, q < H.size → t.heap[q]? = H[q]?) → XC cls s t)
    (hf : ∀ z ∈ locs, free z.base) (hc : cells + 1 ≤ mc) (hs : slots + 6 ≤ ms) :
    W p l e R s m args below meth c H locs cells slots (vx_MQ below Qc XC args s mc ms free) (F0 m pc ls rest) := by
  intro T hT X
  have htr : e.platform.stackTraces = false := (show e.platform.stackTraces = l.stackTraces by rw [X.admits.platform]).trans hl
  have Y := vx_rebase X (R' := { frames := R.frames, locals := R.locals, cells := 1, slots := 6 }) (Nat.le_refl _) (Nat.le_refl _) hRcells hRslots
  obtain ⟨s', hA⟩ : ∃ z, z = (T.setVm s.vm).setFrames (.invoking m args :: below) := ⟨_, rfl⟩
  rw [← hA] at Y
  have hvm : s'.vm = s.vm := by rw [hA]; rfl
  have hhp : s'.heap = H := by rw [hA]; exact hT
  have hW0 : s.WarmedH s'.vm := by rw [hvm]; exact State.WarmedH.refl s
  have hat' : ∀ w ∈ vx_at0 own ic cls names, w.before args s' = true := fun w hw => vx_ot_at hW0 hvm.symm (hgood w (List.mem_cons_of_mem _ (List.mem_cons_of_mem _ hw))) (hat w hw)
  have hk' : (Cond.classLink own ik cls).before args s' = true := vx_ot_at hW0 hvm.symm (hgood _ List.mem_cons_self) hk
  have hini' : (Cond.initialized cls).before args s' = true := vx_ot_at hW0 hvm.symm (hgood _ (List.mem_cons_of_mem _ List.mem_cons_self)) hini
  have hU' : vx_Zq Bundle.tN "UNASSIGNED_STACK" Bundle.steD A s' s'.heap := by rw [hhp]; exact vx_Zq.moved hW0.alike (hU.kept hS.2.1)
  have hN' : vx_Zq Bundle.tN "SUPPRESSED_SENTINEL" Bundle.listD A s' s'.heap := by rw [hhp]; exact vx_Zq.moved hW0.alike (hN.kept hS.2.1)
  have h : ∀ w ∈ Bundle.ownAtoms0 own ic cls names, w.before args s' = true := vx_own hat' (vx_isRefq hU'.1) (vx_isRefq hN'.1) hU'.2.word hN'.2.word
  have hown' : s'.vm.findClass own = some m.cls := by rw [hvm]; exact hown
  have hins : (Cond.instantiable cls 6).before args s' = true := h _ (by simp [Bundle.ownAtoms0])
  obtain ⟨vm₁, cX, kX, hfX, hkX, -, -, X₁, st1⟩ := Y.newCold hexec (own := own) (C := cls) (index := ik) (n := 6) hown' hk' hins hini'
    (g := F0 m pc ls rest) rfl (by rw [hb]; exact d0) (Nat.le_refl _) (Nat.le_refl _)
  generalize hT1 : (T.setVm vm₁).pushCell { cls := cX, slots := kX.instanceTypes.map defaultValue, vm := .none } = T1 at X₁ st1
  have hcat : (Value.ref T.heap.size).category = 1 := rfl
  have hcellA : T1.heap[T.heap.size]? = some (freshCell cX kX) := by rw [← hT1]; exact State.heap_pushCell_size _ _
  have d3' : decode c.code (pc + 3) = .ok (.dup, 1) := by rw [hb]; exact d3
  obtain ⟨U, hsteps, hrun, hend, hW, hsame, ce, hce, hO⟩ := X₁.ctorThrow0 hexec htr (own := own) (cls := cls) (names := names) (ic := ic) hown' hcls hnames h (fun x hx => nomatch hx) hfX hkX hcellA (by rw [hhp, hT]; exact Nat.le_refl _)
    (g := { method := m, pc := pc + 4, locals := ls, stack := .ref T.heap.size :: .ref T.heap.size :: rest, locked := none }) rfl hsize rfl rfl (rest := rest) rfl
    (by rw [hb]; exact d4) (by rw [hb]; exact d7) hout hRframes (by simp only [List.map_cons, List.sum_cons, hcat]; omega) hlocks
  obtain ⟨f1, f2⟩ := vx_frame hsame
  rw [hhp] at f1 f2
  have hWs : s.WarmedH U.vm := State.WarmedH.trans hW0 hW
  have hcl : s.vm.findClass cls = some ce.cls := by
    have h9 := hO.cls
    rw [hvm] at h9
    exact h9
  have hall : s.sameButNew ({ U with vm := s.vm } : State) locs mc ms := by
    subst hA
    obtain ⟨e1, e2⟩ := hsame
    rw [State.setFrames_setFrames] at e1
    have h2 : (T.setVm s.vm).sameButNew ({ U with vm := s.vm } : State) [] (0 + 1) (0 + 6) := ⟨e1, e2⟩
    have h3 := X.same.trans h2
    rw [List.append_nil] at h3
    exact h3.mono hc hs
  refine ⟨U, ?_, .threw T.heap.size, hrun, hend, Or.inr ⟨T.heap.size, rfl, cls, ce, locs, hx U hWs.alike f1 (fun q hq => f2 q hq (fun z hz => nomatch hz)), hce, hO.vm, hcl, hWs, hall, hf⟩⟩
  refine st1 _ ?_
  show Steps p.tables e below (T1.setTop { method := m, pc := pc + 3, locals := ls, stack := .ref T.heap.size :: rest, locked := none }) _
  jvm_step X₁.here [X₁.here.top, hexec, d3', Value.category]
  exact hsteps
/-- 'throw new E("text")': new; dup; ldc; invokespecial; athrow -/
theorem vx_throwS {cc : ByteArray} {pc : Nat} (hexec : p.tables.exec = Jvm.exec) (hb : c.code = cc) (hl : l.stackTraces = false) {own cls text : String} {names : List String} {ik is ic mc ms sa : Nat} {A : Nat → Prop}
    (hown : s.vm.findClass own = some m.cls) (hcls : Bundle.fit cls = true) (hnames : ∀ n ∈ names, Bundle.fit n = true)
    (hk : (Cond.classLink own ik cls).before args s = true) (hini : (Cond.initialized cls).before args s = true) (hstr : vk_R own is text sa s) (hat : ∀ w ∈ vx_atS own ic cls names, w.before args s = true)
    (hgood : ∀ w ∈ Cond.classLink own ik cls :: Cond.initialized cls :: vx_atS own ic cls names, vx_ot w = true)
    (hU : vx_Zq Bundle.tN "UNASSIGNED_STACK" Bundle.steD A s s.heap) (hN : vx_Zq Bundle.tN "SUPPRESSED_SENTINEL" Bundle.listD A s s.heap) (hS : va_S A s.heap H locs) (hsize : ls.size = c.maxLocals)
    (d0 : decode cc pc = .ok (.new ik, 3)) (d3 : decode cc (pc + 3) = .ok (.dup, 1)) (d4 : decode cc (pc + 4) = .ok (.ldc is, 2)) (d6 : decode cc (pc + 6) = .ok (.invokespecial ic, 3)) (d9 : decode cc (pc + 9) = .ok (.athrow, 1))
    (hout : ∀ x ∈ c.exceptionTable.toList, covers x (pc + 9) = false)
    (hRframes : names.length + 3 < R.frames) (hRlocals : (rest.map fun v => v.category).sum + (13 * (names.length + 1) + 43) ≤ R.locals) (hRcells : cells + 1 ≤ R.cells) (hRslots : slots + 6 ≤ R.slots) (hlocks : meth.locks = false)
    (hx : ∀ t : State, s.vm.Alike t.vm → H.size ≤ t.heap.size → (∀ q : Nat, q < H.size → t.heap[q]? = H[q]?) → XC cls s t)
    (hf : ∀ z ∈ locs, free z.base) (hc : cells + 1 ≤ mc) (hs : slots + 6 ≤ ms) :
    W p l e R s m args below meth c H locs cells slots (vx_MQ below Qc XC args s mc ms free) (F0 m pc ls rest) := by
  intro T hT X
  have htr : e.platform.stackTraces = false := (show e.platform.stackTraces = l.stackTraces by rw [X.admits.platform]).trans hl
  have Y := vx_rebase X (R' := { frames := R.frames, locals := R.locals, cells := 1, slots := 6 }) (Nat.le_refl _) (Nat.le_refl _) hRcells hRslots
  obtain ⟨s', hA⟩ : ∃ z, z = (T.setVm s.vm).setFrames (.invoking m args :: below) := ⟨_, rfl⟩
  rw [← hA] at Y
  have hvm : s'.vm = s.vm := by rw [hA]; rfl
  have hhp : s'.heap = H := by rw [hA]; exact hT
  have hW0 : s.WarmedH s'.vm := by rw [hvm]; exact State.WarmedH.refl s
  have hat' : ∀ w ∈ vx_atS own ic cls names, w.before args s' = true := fun w hw => vx_ot_at hW0 hvm.symm (hgood w (List.mem_cons_of_mem _ (List.mem_cons_of_mem _ hw))) (hat w hw)
  have hk' : (Cond.classLink own ik cls).before args s' = true := vx_ot_at hW0 hvm.symm (hgood _ List.mem_cons_self) hk
  have hini' : (Cond.initialized cls).before args s' = true := vx_ot_at hW0 hvm.symm (hgood _ (List.mem_cons_of_mem _ List.mem_cons_self)) hini
  have hU' : vx_Zq Bundle.tN "UNASSIGNED_STACK" Bundle.steD A s' s'.heap := by rw [hhp]; exact vx_Zq.moved hW0.alike (hU.kept hS.2.1)
  have hN' : vx_Zq Bundle.tN "SUPPRESSED_SENTINEL" Bundle.listD A s' s'.heap := by rw [hhp]; exact vx_Zq.moved hW0.alike (hN.kept hS.2.1)
  have h : ∀ w ∈ Bundle.ownAtoms own ic cls names, w.before args s' = true := vx_own hat' (vx_isRefq hU'.1) (vx_isRefq hN'.1) hU'.2.word hN'.2.word
  have hown' : s'.vm.findClass own = some m.cls := by rw [hvm]; exact hown
  have hins : (Cond.instantiable cls 6).before args s' = true := h _ (by simp [Bundle.ownAtoms])
  obtain ⟨vm₁, cX, kX, hfX, hkX, -, -, X₁, st1⟩ := Y.newCold hexec (own := own) (C := cls) (index := ik) (n := 6) hown' hk' hins hini'
    (g := F0 m pc ls rest) rfl (by rw [hb]; exact d0) (Nat.le_refl _) (Nat.le_refl _)
  generalize hT1 : (T.setVm vm₁).pushCell { cls := cX, slots := kX.instanceTypes.map defaultValue, vm := .none } = T1 at X₁ st1
  have hcat : (Value.ref T.heap.size).category = 1 := rfl
  have hcellA : T1.heap[T.heap.size]? = some (freshCell cX kX) := by rw [← hT1]; exact State.heap_pushCell_size _ _
  have d3' : decode c.code (pc + 3) = .ok (.dup, 1) := by rw [hb]; exact d3
  have d4' : decode c.code (pc + 4) = .ok (.ldc is, 2) := by rw [hb]; exact d4
  have hstr' : vk_R own is text sa s' := vk_R.warm hW0 hstr
  obtain ⟨U, hsteps, hrun, hend, hW, hsame, ce, hce, hO⟩ := X₁.ctorThrowS hexec htr (own := own) (cls := cls) (names := names) (ic := ic) hown' hcls hnames h (fun x hx => nomatch hx) hfX hkX hcellA (by rw [hhp, hT]; exact Nat.le_refl _) (msg := .ref sa) rfl
    (g := { method := m, pc := pc + 6, locals := ls, stack := .ref sa :: .ref T.heap.size :: .ref T.heap.size :: rest, locked := none }) rfl hsize rfl rfl (rest := rest) rfl
    (by rw [hb]; exact d6) (by rw [hb]; exact d9) hout hRframes (by simp only [List.map_cons, List.sum_cons, hcat]; omega) hlocks
  obtain ⟨f1, f2⟩ := vx_frame hsame
  rw [hhp] at f1 f2
  have hWs : s.WarmedH U.vm := State.WarmedH.trans hW0 hW
  have hcl : s.vm.findClass cls = some ce.cls := by
    have h9 := hO.cls
    rw [hvm] at h9
    exact h9
  have hall : s.sameButNew ({ U with vm := s.vm } : State) locs mc ms := by
    subst hA
    obtain ⟨e1, e2⟩ := hsame
    rw [State.setFrames_setFrames] at e1
    have h2 : (T.setVm s.vm).sameButNew ({ U with vm := s.vm } : State) [] (0 + 1) (0 + 6) := ⟨e1, e2⟩
    have h3 := X.same.trans h2
    rw [List.append_nil] at h3
    exact h3.mono hc hs
  refine ⟨U, ?_, .threw T.heap.size, hrun, hend, Or.inr ⟨T.heap.size, rfl, cls, ce, locs, hx U hWs.alike f1 (fun q hq => f2 q hq (fun z hz => nomatch hz)), hce, hO.vm, hcl, hWs, hall, hf⟩⟩
  refine st1 _ ?_
  show Steps p.tables e below (T1.setTop { method := m, pc := pc + 3, locals := ls, stack := .ref T.heap.size :: rest, locked := none }) _
  jvm_step X₁.here [X₁.here.top, hexec, d3', Value.category]
  exact X₁.ldcString hexec (own := own) (text := text) (index := is) (a := sa) hown' hstr'.1 hstr'.2
    (g := { method := m, pc := pc + 4, locals := ls, stack := .ref T.heap.size :: .ref T.heap.size :: rest, locked := none }) rfl d4' _ hsteps
/-- 'throw new E("text")', the text by a wide index -/
theorem vx_throwSW {cc : ByteArray} {pc : Nat} (hexec : p.tables.exec = Jvm.exec) (hb : c.code = cc) (hl : l.stackTraces = false) {own cls text : String} {names : List String} {ik is ic mc ms sa : Nat} {A : Nat → Prop}
    (hown : s.vm.findClass own = some m.cls) (hcls : Bundle.fit cls = true) (hnames : ∀ n ∈ names, Bundle.fit n = true)
    (hk : (Cond.classLink own ik cls).before args s = true) (hini : (Cond.initialized cls).before args s = true) (hstr : vk_R own is text sa s) (hat : ∀ w ∈ vx_atS own ic cls names, w.before args s = true)
    (hgood : ∀ w ∈ Cond.classLink own ik cls :: Cond.initialized cls :: vx_atS own ic cls names, vx_ot w = true)
    (hU : vx_Zq Bundle.tN "UNASSIGNED_STACK" Bundle.steD A s s.heap) (hN : vx_Zq Bundle.tN "SUPPRESSED_SENTINEL" Bundle.listD A s s.heap) (hS : va_S A s.heap H locs) (hsize : ls.size = c.maxLocals)
    (d0 : decode cc pc = .ok (.new ik, 3)) (d3 : decode cc (pc + 3) = .ok (.dup, 1)) (d4 : decode cc (pc + 4) = .ok (.ldc_w is, 3)) (d7 : decode cc (pc + 7) = .ok (.invokespecial ic, 3)) (d10 : decode cc (pc + 10) = .ok (.athrow, 1))
    (hout : ∀ x ∈ c.exceptionTable.toList, covers x (pc + 10) = false)
    (hRframes : names.length + 3 < R.frames) (hRlocals : (rest.map fun v => v.category).sum + (13 * (names.length + 1) + 43) ≤ R.locals) (hRcells : cells + 1 ≤ R.cells) (hRslots : slots + 6 ≤ R.slots) (hlocks : meth.locks = false)
    (hx : ∀ t : State, s.vm.Alike t.vm → H.size ≤ t.heap.size → (∀ q : Nat, q < H.size → t.heap[q]? = H[q]?) → XC cls s t)
    (hf : ∀ z ∈ locs, free z.base) (hc : cells + 1 ≤ mc) (hs : slots + 6 ≤ ms) :
    W p l e R s m args below meth c H locs cells slots (vx_MQ below Qc XC args s mc ms free) (F0 m pc ls rest) := by
  intro T hT X
  have htr : e.platform.stackTraces = false := (show e.platform.stackTraces = l.stackTraces by rw [X.admits.platform]).trans hl
  have Y := vx_rebase X (R' := { frames := R.frames, locals := R.locals, cells := 1, slots := 6 }) (Nat.le_refl _) (Nat.le_refl _) hRcells hRslots
  obtain ⟨s', hA⟩ : ∃ z, z = (T.setVm s.vm).setFrames (.invoking m args :: below) := ⟨_, rfl⟩
  rw [← hA] at Y
  have hvm : s'.vm = s.vm := by rw [hA]; rfl
  have hhp : s'.heap = H := by rw [hA]; exact hT
  have hW0 : s.WarmedH s'.vm := by rw [hvm]; exact State.WarmedH.refl s
  have hat' : ∀ w ∈ vx_atS own ic cls names, w.before args s' = true := fun w hw => vx_ot_at hW0 hvm.symm (hgood w (List.mem_cons_of_mem _ (List.mem_cons_of_mem _ hw))) (hat w hw)
  have hk' : (Cond.classLink own ik cls).before args s' = true := vx_ot_at hW0 hvm.symm (hgood _ List.mem_cons_self) hk
  have hini' : (Cond.initialized cls).before args s' = true := vx_ot_at hW0 hvm.symm (hgood _ (List.mem_cons_of_mem _ List.mem_cons_self)) hini
  have hU' : vx_Zq Bundle.tN "UNASSIGNED_STACK" Bundle.steD A s' s'.heap := by rw [hhp]; exact vx_Zq.moved hW0.alike (hU.kept hS.2.1)
  have hN' : vx_Zq Bundle.tN "SUPPRESSED_SENTINEL" Bundle.listD A s' s'.heap := by rw [hhp]; exact vx_Zq.moved hW0.alike (hN.kept hS.2.1)
  have h : ∀ w ∈ Bundle.ownAtoms own ic cls names, w.before args s' = true := vx_own hat' (vx_isRefq hU'.1) (vx_isRefq hN'.1) hU'.2.word hN'.2.word
  have hown' : s'.vm.findClass own = some m.cls := by rw [hvm]; exact hown
  have hins : (Cond.instantiable cls 6).before args s' = true := h _ (by simp [Bundle.ownAtoms])
  obtain ⟨vm₁, cX, kX, hfX, hkX, -, -, X₁, st1⟩ := Y.newCold hexec (own := own) (C := cls) (index := ik) (n := 6) hown' hk' hins hini'
    (g := F0 m pc ls rest) rfl (by rw [hb]; exact d0) (Nat.le_refl _) (Nat.le_refl _)
  generalize hT1 : (T.setVm vm₁).pushCell { cls := cX, slots := kX.instanceTypes.map defaultValue, vm := .none } = T1 at X₁ st1
  have hcat : (Value.ref T.heap.size).category = 1 := rfl
  have hcellA : T1.heap[T.heap.size]? = some (freshCell cX kX) := by rw [← hT1]; exact State.heap_pushCell_size _ _
  have d3' : decode c.code (pc + 3) = .ok (.dup, 1) := by rw [hb]; exact d3
  have d4' : decode c.code (pc + 4) = .ok (.ldc_w is, 3) := by rw [hb]; exact d4
  have hstr' : vk_R own is text sa s' := vk_R.warm hW0 hstr
  obtain ⟨U, hsteps, hrun, hend, hW, hsame, ce, hce, hO⟩ := X₁.ctorThrowS hexec htr (own := own) (cls := cls) (names := names) (ic := ic) hown' hcls hnames h (fun x hx => nomatch hx) hfX hkX hcellA (by rw [hhp, hT]; exact Nat.le_refl _) (msg := .ref sa) rfl
    (g := { method := m, pc := pc + 7, locals := ls, stack := .ref sa :: .ref T.heap.size :: .ref T.heap.size :: rest, locked := none }) rfl hsize rfl rfl (rest := rest) rfl
    (by rw [hb]; exact d7) (by rw [hb]; exact d10) hout hRframes (by simp only [List.map_cons, List.sum_cons, hcat]; omega) hlocks
  obtain ⟨f1, f2⟩ := vx_frame hsame
  rw [hhp] at f1 f2
  have hWs : s.WarmedH U.vm := State.WarmedH.trans hW0 hW
  have hcl : s.vm.findClass cls = some ce.cls := by
    have h9 := hO.cls
    rw [hvm] at h9
    exact h9
  have hall : s.sameButNew ({ U with vm := s.vm } : State) locs mc ms := by
    subst hA
    obtain ⟨e1, e2⟩ := hsame
    rw [State.setFrames_setFrames] at e1
    have h2 : (T.setVm s.vm).sameButNew ({ U with vm := s.vm } : State) [] (0 + 1) (0 + 6) := ⟨e1, e2⟩
    have h3 := X.same.trans h2
    rw [List.append_nil] at h3
    exact h3.mono hc hs
  refine ⟨U, ?_, .threw T.heap.size, hrun, hend, Or.inr ⟨T.heap.size, rfl, cls, ce, locs, hx U hWs.alike f1 (fun q hq => f2 q hq (fun z hz => nomatch hz)), hce, hO.vm, hcl, hWs, hall, hf⟩⟩
  refine st1 _ ?_
  show Steps p.tables e below (T1.setTop { method := m, pc := pc + 3, locals := ls, stack := .ref T.heap.size :: rest, locked := none }) _
  jvm_step X₁.here [X₁.here.top, hexec, d3', Value.category]
  exact X₁.ldcStringW hexec (own := own) (text := text) (index := is) (a := sa) hown' hstr'.1 hstr'.2
    (g := { method := m, pc := pc + 4, locals := ls, stack := .ref T.heap.size :: .ref T.heap.size :: rest, locked := none }) rfl d4' _ hsteps
end Ends
section Bodies
variable {l : Launch}
theorem vx_ofW {y : MethodName} {ws ws' : List Cond} {rm : Room} {Pc : Array Value → State → Prop} {Qc : Array Value → State → Outcome → State → Prop} {XC : String → State → State → Prop} {mc ms : Nat} {free : Addr → Prop} {cc : ByteArray} {maxL : Nat} {ret : Option FieldType}
    (hy : plainName y.cls = true) (hw : ws = Cond.code y cc maxL ret :: ws')
    (body : ∀ p e s m args below meth c s₁, BodyLoose p l y (headSpec ws rm) cc maxL ret e s m args below meth c s₁ → c.maxLocals = maxL → (∀ x ∈ c.exceptionTable.toList, False) → Pc args s →
      W p l e (headSpec ws rm).room s m args below meth c s.heap [] 0 0 (vx_MQ below Qc XC args s mc ms free) (entryFrame m args maxL)) : vx_Met l y ws rm Pc Qc XC mc ms free := by
  refine MetFree.of_bodyS (code := cc) (maxLocals := maxL) (ret := ret) hy ?_ ?_
  · intro args s m h hn
    obtain ⟨meth, c, h1, h2, h3, h4, h5, h6, -, -⟩ := Cond.code_spec hn (atoms_spec (ws := ws) h _ (by rw [hw]; exact List.mem_cons_self))
    exact ⟨meth, c, h1, h2, h3, h4, h5, h6⟩
  · intro p e s m args below meth c s₁ B hml hP _
    have hh0 : s₁.heap = s.heap := by rw [B.state]; rfl
    have ht : ∀ x ∈ c.exceptionTable.toList, False := by
      obtain ⟨meth9, c9, h1, h2, -, -, -, -, h7, -⟩ := Cond.code_spec B.named (atoms_spec (ws := ws) B.pre _ (by rw [hw]; exact List.mem_cons_self))
      cases Option.some.inj (h1.symm.trans B.method)
      cases Option.some.inj (h2.symm.trans (Stand.of_body B).code)
      intro x hx
      rw [Array.isEmpty_iff.mp h7] at hx
      cases hx
    obtain ⟨t, a1, o, b1, b2, b3⟩ := body p e s m args below meth c s₁ B hml ht hP s₁ hh0 (Stand.of_body B)
    exact ⟨t, o, a1, b1, b2, b3⟩
/-- the table of a body with handlers -/
theorem vx_table {p : Program} {x y : MethodName} {S : Spec} {cc bytes : ByteArray} {maxL maxL' : Nat} {ret ret' : Option FieldType} {e : Env} {s s₁ : State} {m : MethodId} {args : Array Value} {below : List Frame} {meth : Method} {c : Code} {hh : List (Nat × Nat × Nat × Nat)}
    (B : BodyLoose p l y S cc maxL ret e s m args below meth c s₁) (h : (Cond.codeWith y bytes maxL' ret' hh).before args s = true) : c.exceptionTable.toList = tableOf hh := by
  obtain ⟨m9, meth9, c9, hn9, h1, h2, -, -, h6, -⟩ := Cond.codeWith_spec h
  cases Option.some.inj (hn9.symm.trans B.named)
  cases Option.some.inj (h1.symm.trans B.method)
  cases Option.some.inj (h2.symm.trans (Stand.of_body B).code)
  rw [← h6, table_eq]
end Bodies
end VXA
/-! ===== END ===== -/
/-! ===== BEGIN a static call of a method with an exception table ===== -/
section VXS
variable {p : Program} {l : Launch} {e : Env} {R : Room} {s : State} {m : MethodId} {args : Array Value} {below : List Frame} {meth : Method} {c : Code} {T : State} {H : Heap} {locs : List Loc} {cells slots : Nat}
abbrev vx_CSW (R : Room) (s : State) (args : Array Value) (own : String) (index : Nat) (y : MethodName) (bytes : ByteArray) (maxL : Nat) (ret : Option FieldType) (hh : List (Nat × Nat × Nat × Nat)) (ws : List Cond) (rm : Room) (mc ms n : Nat) : Prop :=
  (rm.cells = mc ∧ rm.slots = ms ∧ rm.frames + 1 ≤ R.frames ∧ 8 + (maxL + 11) + rm.locals ≤ R.locals ∧ (∀ w ∈ ws, ∀ (a' : Array Value) (U : State), s.WarmedH U.vm → w.before a' U = true) ∧ Cond.codeWith y bytes maxL ret hh ∈ ws) ∧
  (Cond.codeWith y bytes maxL ret hh).before args s = true ∧ (Cond.initialized y.cls).before args s = true ∧ (y.cls ≠ "java/lang/invoke/MethodHandle" ∧ y.cls ≠ "java/lang/invoke/VarHandle") ∧
  (∀ sig, parseMethodDescriptor y.desc = some sig → n = sig.parameters.length) ∧ (Cond.methodLink own index y).before args s = true ∧ (Cond.static y).before args s = true
theorem vx_cwSW {own : String} {index maxL mc ms : Nat} {y : MethodName} {bytes : ByteArray} {ret : Option FieldType} {hh : List (Nat × Nat × Nat × Nat)} {Ts ws ws' : List Cond} {rm : Room} (n : Nat) (ht : ∀ w ∈ Ts, w.before args s = true) (hT : GoodIn Ts (va_wsS own index y ws)) (hw : ws = Cond.codeWith y bytes maxL ret hh :: ws') (hrc : rm.cells = mc) (hrs : rm.slots = ms)
    (hd : y.cls ≠ "java/lang/invoke/MethodHandle" ∧ y.cls ≠ "java/lang/invoke/VarHandle" ∧ (parseMethodDescriptor y.desc).map (fun d => d.parameters.length) = some n) (hR : rm.frames + 1 ≤ R.frames ∧ 8 + (maxL + 11) + rm.locals ≤ R.locals) :
    vx_CSW R s args own index y bytes maxL ret hh ws rm mc ms n := by
  have ok : ∀ w ∈ va_wsS own index y ws, w.before args s = true := fun w h => ht w (hT w h).1
  have hG : GoodIn Ts ws := fun w h => hT w (by unfold va_wsS; exact List.mem_append_right _ h)
  have hc : Cond.codeWith y bytes maxL ret hh ∈ ws := by rw [hw]; exact List.mem_cons_self
  refine ⟨⟨hrc, hrs, hR.1, hR.2, pay_in ht hG, hc⟩, ht _ (hG _ hc).1, ok _ (by simp [va_wsS]), ⟨hd.1, hd.2.1⟩, fun sig h => ?_, ok _ (by simp [va_wsS]), ok _ (by simp [va_wsS])⟩
  have h2 := hd.2.2
  rw [h] at h2
  exact (Option.some.inj h2).symm
theorem vx_callSW (X : Stand p l e R s m args below meth c T locs cells slots) (hexec : p.tables.exec = Jvm.exec) {own : String} {index : Nat} {y : MethodName} {bytes : ByteArray} {maxL : Nat} {ret : Option FieldType} {hh : List (Nat × Nat × Nat × Nat)}
    (hown : s.vm.findClass own = some m.cls) (hlink : (Cond.methodLink own index y).before args s = true) (hstat : (Cond.static y).before args s = true) (hinit : (Cond.initialized y.cls).before args s = true)
    (hcode : (Cond.codeWith y bytes maxL ret hh).before args s = true) (hy : y.cls ≠ "java/lang/invoke/MethodHandle" ∧ y.cls ≠ "java/lang/invoke/VarHandle")
    {W9 : Nat} {Pre : Pt → Array Value → Prop} {Post : Pt → Array Value → Option Value → Pt → Prop} (hK : Back l R p e below s args y 3 W9 Pre Post)
    {g : JFrame} (hg : g.method = m) (hsize : g.locals.size = c.maxLocals) {argsL rest : List Value} (hlen : ∀ sig, parseMethodDescriptor y.desc = some sig → argsL.length = sig.parameters.length)
    (hstack : g.stack = argsL.reverse ++ rest) (hW : 2 * g.monitorRoom + (rest.map fun v => v.category).sum ≤ W9) (hdg : decode c.code g.pc = .ok (.invokestatic index, 3))
    (hpre : ∀ vm₁, s.WarmedH vm₁ → Pre ⟨T.setVm vm₁, locs, cells, slots⟩ argsL.toArray) :
    ∃ (v : Option Value) (vm₁ : Vm) (B : Pt), s.WarmedH vm₁ ∧ Stand p l e R s m args below meth c B.U B.locs B.cells B.slots ∧ Post ⟨T.setVm vm₁, locs, cells, slots⟩ argsL.toArray v B ∧
      ∀ target, Steps p.tables e below (B.U.setTop { g with pc := g.pc + 3, stack := v.toList ++ rest }) target → Steps p.tables e below (T.setTop g) target := by
  obtain ⟨mk, methM, cM, hnamed, hmethM, -, -, -, -, -, -, hsigM⟩ := Cond.codeWith_spec hcode
  have hstatic : methM.isStatic = true := Cond.static_spec hnamed hmethM hstat
  obtain ⟨kP, hkP, -⟩ := className_of_methodNamed hnamed
  have hinitP : kP.init = .initialized := Cond.initialized_spec (findClass_of_methodNamed hnamed) hkP hinit
  obtain ⟨vm₁, X₁, hstep₁⟩ := X.invokestatic hexec hown hlink hnamed hmethM hstatic hkP hinitP hy (g := g) hg (argsL := argsL) (rest := rest) (hlen _ hsigM) hstack hdg
  obtain ⟨v, B, X', hpost, hsteps⟩ := hK m meth c ⟨T.setVm vm₁, locs, cells, slots⟩ { g with stack := rest } (.invokestatic index) mk argsL.toArray X₁ hg hsize hdg hW (X₁.named hnamed) (hpre vm₁ X₁.warmed)
  exact ⟨v, vm₁, B, X₁.warmed, X', hpost, fun target h => hstep₁ _ fun acts => by rw [doInvoke_state]; exact hsteps.trans h⟩
theorem vx_runSW {y : MethodName} {bytes cc : ByteArray} {maxL nL mc ms n index : Nat} {ret : Option FieldType} {hh : List (Nat × Nat × Nat × Nat)} {ws : List Cond} {rm : Room} {Pc : Array Value → State → Prop} {Qc : Array Value → State → Outcome → State → Prop} {free : Addr → Prop} {Ts : List Cond} {own : String} {As rest : List Value} {g : JFrame}
    (S : CallFix p m c cc nL s args Ts own) (hM : Met l y ws rm Pc Qc mc ms free) (cw : vx_CSW R s args own index y bytes maxL ret hh ws rm mc ms n) (hp : PreS s H Pc As)
    (hg : g.method = m) (hn : As.length = n) (hsize : g.locals.size = nL) (hstack : g.stack = As.reverse ++ rest) (hW : 2 * g.monitorRoom + (rest.map fun v => v.category).sum ≤ 8) (hdg : decode cc g.pc = .ok (.invokestatic index, 3)) (hf : cells + mc ≤ R.cells ∧ slots + ms ≤ R.slots) :
    va_Run p l e R s m args below meth c H locs cells slots mc ms g rest (Qc As.toArray) (free) := by
  obtain ⟨⟨hrc, hrs, hfr, hlo, hws, hcw⟩, hcode, hini, hy, hlen, hl, hstt⟩ := cw
  have hK : Back l R p e below s args y 3 8 (PreOf R mc ms Pc) (PostOf Qc mc ms free) := va_backW (hh := hh) (bytes := bytes) (maxL := maxL) (ret := ret) hM hp.1 hrc hrs hfr hlo hws hcw (fun a' U hW => word_at hW (Or.inl (by first | rfl | simp [Cond.onTables, Cond.keeps, Cond.steady])) hini)
  obtain ⟨hx, hb, hml, ho, -⟩ := S
  intro T hT X
  obtain ⟨v, vm₁, ⟨U', l2, c2, s2⟩, hW₁, X', ⟨g', mk, t, L, e1, e2, hq, h1, hL, h2, h3⟩, st⟩ := vx_callSW X hx (hh := hh) (bytes := bytes) (maxL := maxL) (ret := ret) ho hl hstt hini hcode hy hK hg (hsize.trans hml.symm) (argsL := As) (rest := rest) (fun sig h => hn.trans (hlen sig h)) hstack hW (by rw [hb]; exact hdg)
    (fun vm₁ hW₁ => ⟨hf.1, hf.2, hp.2 (T.setVm vm₁) hT hW₁⟩)
  dsimp only [Pt.U, Pt.locs, Pt.cells, Pt.slots] at X' e1 e2 h1 h2 h3 st
  subst h1; subst h2; subst h3
  exact ⟨v, (T.setVm vm₁).calling g' mk As.toArray, t, U', L, hT, X', hL, e1, e2, hq, st⟩
/-- not caught here, past rows that name other classes: it goes on to the caller -/
theorem vx_outP {p : Program} {l : Launch} {e : Env} {R : Room} {s : State} {m : MethodId} {args : Array Value} {below : List Frame} {meth : Method} {c : Code} {H : Heap} {locs : List Loc} {cells slots : Nat} {free : Addr → Prop} {ls : Array Slot} {rest : List Value} {Qc : Array Value → State → Outcome → State → Prop} {XC : String → State → State → Prop}
    {pc : Nat} {own E : String} {ce : Cell} {q : Addr} {mc ms : Nat} (hown : s.vm.findClass own = some m.cls) (hlocks : meth.locks = false)
    (hpass : ∀ z ∈ c.exceptionTable.toList, covers z pc = false ∨ (z.catchType ≠ 0 ∧ ∃ nm : String, (Cond.classLink own z.catchType nm).before args s = true ∧ va_Nc E nm s)) (hcell : H[q]? = some ce) (hv : ce.vm = .none) (hcl : s.vm.findClass E = some ce.cls)
    (hx : ∀ t : State, t.heap = H → s.vm.Alike t.vm → XC E s t) (hf : ∀ z ∈ locs, free z.base) (hc : cells ≤ mc) (hs : slots ≤ ms) :
    vx_W p l e R s m args below meth c H locs cells slots (vx_MQ below Qc XC args s mc ms free) (F0 m pc ls rest) q := by
  intro T hT X
  have hpl : e.platform.magicAccessors = ({} : Platform).magicAccessors := by rw [X.admits.platform]
  obtain ⟨vm', hW', X', st⟩ := X.outThrough hlocks q (g := F0 m pc ls rest) rfl rfl rfl (cell := ce) (by rw [hT]; exact hcell) (by rw [hv]; rfl)
    (by obtain ⟨k9, h9, -⟩ := Vm.findClass_spec hcl; exact ⟨k9, h9⟩) (fun z hz => by
      rcases hpass z hz with h | ⟨hz0, nm, hl1, hn1⟩
      · exact Or.inl h
      · obtain ⟨c6, hc6, hcl6⟩ := Cond.classLink_spec hown hl1 e.platform hpl
        obtain ⟨a8, b8, h1, h2, h3⟩ := hn1
        cases Option.some.inj (h1.symm.trans hcl)
        cases Option.some.inj (h2.symm.trans hc6)
        exact Or.inr ⟨hz0, _, hcl6, h3⟩)
  obtain ⟨g₀, hfr⟩ := X'.frames_eq
  have hcell9 : ((T.setVm vm').setFrames (.throwing q :: below)).heap[q]? = some ce := by
    show T.heap[q]? = some ce
    rw [hT]; exact hcell
  have hend : Ended ((T.setVm vm').setFrames (.throwing q :: below)) below (.threw q) := State.frames_setFrames _ (State.cur_lt_of_frames hfr)
  refine ⟨(T.setVm vm').setFrames (.throwing q :: below), ?_, .threw q, X'.here.running, hend, Or.inr ⟨q, rfl, E, ce, locs, hx _ hT (X'.ends _).1.alike, hcell9, hv, hcl, (X'.ends _).1, (X'.ends _).2.mono hc hs, hf⟩⟩
  rw [X.pushThrowing_eq]
  exact st
/-- a thing of a world lies in the heap -/
theorem vx_lt {D : va_G} {cl : List vw_C} {ws : va_W} {H1 : Heap} (h : va_P D cl ws H1) {k : Nat} {q : Nat × va_E} (hk : ws[k]? = some q) : q.1 < H1.size := (h k q hk).lt
end VXS
/-! ===== END ===== -/
/-! ===== BEGIN methods with a table of their own: called by a name, returning or throwing ===== -/
section VXH
/-! vx_backW, vx_callVX, vx_callSX, vx_callVW, vx_runVW, vx_runVX, vx_runSX, vx_ofWH follow the same proofs as their sisters above (Free/Laws.lean, Shelf42/LK1.lean); vx_outP calls Shelf42/NT130.lean (outThrough). -/
section
variable {l : Launch} {R : Room} {p : Program} {e : Env} {below : List Frame} {s : State} {sargs : Array Value} {y : MethodName} {len W9 : Nat}
theorem vx_backW {ws : List Cond} {rm : Room} {Pc : Array Value → State → Prop} {Qc : Array Value → State → Outcome → State → Prop} {XC : String → State → State → Prop} {mc ms : Nat} {free : Addr → Prop} {bytes : ByteArray} {maxL : Nat} {ret : Option FieldType} {hh : List (Nat × Nat × Nat × Nat)}
    (hM : vx_Met l y ws rm Pc Qc XC mc ms free) (hblind : FrameBlind Pc) (hrc : rm.cells = mc) (hrs : rm.slots = ms)
    (hframes : rm.frames + 1 ≤ R.frames) (hlocals : W9 + (maxL + 11) + rm.locals ≤ R.locals)
    (hws : ∀ w ∈ ws, ∀ a' U, s.WarmedH U.vm → w.before a' U = true) (hcode : Cond.codeWith y bytes maxL ret hh ∈ ws) (hinit : ∀ a' U, s.WarmedH U.vm → (Cond.initialized y.cls).before a' U = true) :
    vx_Back l R p e below s sargs y len W9 (PreOf R mc ms Pc) (PostOf Qc mc ms free) (vx_Post XC mc ms free) := by
  intro m meth c A g ig mk a X hg hsize hdg hW hn hp
  have h1 : (headSpec ws rm).pre.before a A.U = true := atoms_intro fun w hw => hws w hw _ _ X.warmed
  have h2 : (Cond.codeWith y bytes maxL ret hh).before a A.U = true := hws _ hcode _ _ X.warmed
  have h3 : (Cond.initialized y.cls).before a A.U = true := hinit _ _ X.warmed
  have h4 : A.cells + (headSpec ws rm).room.cells ≤ R.cells := by rw [show (headSpec ws rm).room.cells = mc from hrc]; exact hp.1
  have h5 : A.slots + (headSpec ws rm).room.slots ≤ R.slots := by rw [show (headSpec ws rm).room.slots = ms from hrs]; exact hp.2.1
  have hPc : Pc a (A.U.calling g mk a) := hblind _ _ _ _ hp.2.2
  obtain ⟨U, Ls, c0, s0⟩ := A
  dsimp only [Pt.U, Pt.locs, Pt.cells, Pt.slots] at h1 h2 h3 h4 h5 X hn hPc ⊢
  obtain ⟨m9, methY, cY, hn9, hmY, hcY, -, hlY, -⟩ := Cond.codeWith_spec h2
  cases Option.some.inj (hn9.symm.trans hn)
  obtain ⟨kY, hkY, -⟩ := className_of_methodNamed hn
  have hinitY : kY.init = .initialized := Cond.initialized_spec (findClass_of_methodNamed hn) hkY h3
  have h : At U g.method c below := by rw [hg]; exact X.here
  have hlocals9 : W9 + (maxL + 11) + (headSpec ws rm).room.locals ≤ R.locals := hlocals
  have happ : (headSpec ws rm).appliesLoose y e.platform (U.calling g mk a) = true :=
    Spec.appliesLoose_calling (g := g) h hdg hn hkY hinitY
      (X.room_calling (g := g) (R' := (headSpec ws rm).room) hsize hmY hcY hframes (by rw [hlY]; omega) h4 h5) h1
  obtain ⟨mid, hmid⟩ := h.above
  have hfr : (U.setTop g).frames = (.java g :: mid) ++ below := by rw [State.frames_setTop' g h.top, hmid]; rfl
  obtain ⟨o, s₂, hsteps, -, hend, hq⟩ := Steps.callFree hM p X.admits X.cas X.clock (acts := []) hfr happ hPc trivial
  have hq' : vx_Q Qc XC mc ms free a (U.calling g mk a) o s₂ := hq
  rw [State.frames_setTop' g h.top] at hend
  obtain ⟨g₀, hg0⟩ := Option.isSome_iff_exists.mp h.top
  obtain ⟨r, hr⟩ := State.topJava?_eq_some.mp hg0
  have hr' : (({ U with heap := s₂.heap, slotsUsed := s₂.slotsUsed } : State).setVm s₂.vm).frames = .java g₀ :: r := hr
  rcases hq' with ⟨hqc, L, hfe, hL⟩ | ⟨q, rfl, E, ce, L, hx, hce, hcv, hcl, hW₂, hsm, hL⟩
  · obtain ⟨⟨v, rfl⟩, hW₂, e2, q2, q3, q4, q5, q6⟩ := id hfe
    have e3 : s₂ = ({ (U.calling g mk a).setFrames s₂.frames with heap := s₂.heap, slotsUsed := s₂.slotsUsed } : State).setVm s₂.vm := by
      have : s₂ = ({ s₂ with vm := (U.calling g mk a).vm } : State).setVm s₂.vm := rfl
      rw [e2] at this
      exact this
    obtain ⟨c₂, i₂, len₂, hc₂, hd₂, hf₂⟩ := hend
    have hW' : U.WarmedH s₂.vm := hW₂
    have hcc : c₂ = c := by
      have h1 : s₂.code? g.method = U.code? g.method := by
        rw [State.code?_eq, State.code?_eq, hW'.alike.method?]
      exact Option.some.inj (hc₂.symm.trans (h1.trans h.code))
    subst hcc
    have hlen : len₂ = len := by rw [hdg] at hd₂; cases hd₂; rfl
    subst hlen
    have hs₂ : s₂ = (({ U with heap := s₂.heap, slotsUsed := s₂.slotsUsed } : State).setVm s₂.vm).setTop { g with pc := g.pc + len₂, stack := v.toList ++ g.stack } := by
      refine e3.trans ?_
      rw [hf₂, State.calling_eq h.top, State.setFrames_setFrames, State.setTop_of_frames _ hr', hr]
      rfl
    have hsame : U.sameButNew ({ U with heap := s₂.heap, slotsUsed := s₂.slotsUsed } : State) L mc ms := by
      refine ⟨?_, q2, q3, q4, q5, q6⟩
      obtain ⟨t, ht, -⟩ := State.frames_cons hr
      show ({ U with heap := s₂.heap, slotsUsed := s₂.slotsUsed } : State) = { U.setFrames U.frames with heap := s₂.heap, slotsUsed := s₂.slotsUsed }
      rw [State.setFrames_self ht]
    subst hg
    refine Or.inl ⟨v, ⟨(({ U with heap := s₂.heap, slotsUsed := s₂.slotsUsed } : State).setVm s₂.vm), Ls ++ L, c0 + mc, s0 + ms⟩,
      ⟨X.admits, X.cas, X.clock, X.frames, X.room, X.hears, X.method, X.code, (X.here.setHeapUsed s₂.heap s₂.slotsUsed).setVm hW'.alike, X.tail, State.WarmedH.trans X.warmed hW', X.limits, X.bytes, X.same.trans (hsame.setVm s.vm)⟩,
      ⟨g, mk, s₂, L, rfl, rfl, hqc, rfl, hL, rfl, rfl⟩, ?_⟩
    show Steps p.tables e below _ ((({ U with heap := s₂.heap, slotsUsed := s₂.slotsUsed } : State).setVm s₂.vm).setTop { g with pc := g.pc + len₂, stack := v.toList ++ g.stack })
    rw [← hs₂]
    exact hsteps
  · obtain ⟨e2, q2, q3, q4, q5, q6⟩ := id hsm
    have e3 : s₂ = ({ (U.calling g mk a).setFrames s₂.frames with heap := s₂.heap, slotsUsed := s₂.slotsUsed } : State).setVm s₂.vm := by
      have : s₂ = ({ s₂ with vm := (U.calling g mk a).vm } : State).setVm s₂.vm := rfl
      rw [e2] at this
      exact this
    have hf₂ : s₂.frames = .throwing q :: .java g :: U.frames.tail := hend
    have hW' : U.WarmedH s₂.vm := hW₂
    have hs₂ : s₂ = ((({ U with heap := s₂.heap, slotsUsed := s₂.slotsUsed } : State).setVm s₂.vm).setTop g).pushFrame (.throwing q) := by
      refine e3.trans ?_
      rw [hf₂, State.calling_eq h.top, State.setFrames_setFrames, State.pushFrame, State.frames_setTop _ hr', State.setTop_of_frames _ hr', State.setFrames_setFrames, hr]
      rfl
    have hsame : U.sameButNew ({ U with heap := s₂.heap, slotsUsed := s₂.slotsUsed } : State) L mc ms := by
      refine ⟨?_, q2, q3, q4, q5, q6⟩
      obtain ⟨t, ht, -⟩ := State.frames_cons hr
      show ({ U with heap := s₂.heap, slotsUsed := s₂.slotsUsed } : State) = { U.setFrames U.frames with heap := s₂.heap, slotsUsed := s₂.slotsUsed }
      rw [State.setFrames_self ht]
    subst hg
    refine Or.inr ⟨q, ⟨(({ U with heap := s₂.heap, slotsUsed := s₂.slotsUsed } : State).setVm s₂.vm), Ls ++ L, c0 + mc, s0 + ms⟩,
      ⟨X.admits, X.cas, X.clock, X.frames, X.room, X.hears, X.method, X.code, (X.here.setHeapUsed s₂.heap s₂.slotsUsed).setVm hW'.alike, X.tail, State.WarmedH.trans X.warmed hW', X.limits, X.bytes, X.same.trans (hsame.setVm s.vm)⟩,
      ⟨g, mk, s₂, L, E, ce, rfl, rfl, hx, hce, hcv, hcl, rfl, hL, rfl, rfl⟩, ?_⟩
    show Steps p.tables e below _ (((({ U with heap := s₂.heap, slotsUsed := s₂.slotsUsed } : State).setVm s₂.vm).setTop g).pushFrame (.throwing q))
    rw [← hs₂]
    exact hsteps
end
variable {p : Program} {l : Launch} {e : Env} {R : Room} {s : State} {m : MethodId} {args : Array Value} {below : List Frame} {meth : Method} {c : Code} {T : State} {H : Heap} {locs : List Loc} {cells slots : Nat}
theorem vx_callVX (X : Stand p l e R s m args below meth c T locs cells slots) (hexec : p.tables.exec = Jvm.exec) {own C : String} {index : Nat} {y : MethodName} {bytes : ByteArray} {maxL : Nat} {ret : Option FieldType} {hh : List (Nat × Nat × Nat × Nat)}
    (hown : s.vm.findClass own = some m.cls) (hlink : (Cond.methodLink own index y).before args s = true) (hinst : (Cond.instanceMethod y).before args s = true) (hsel : (Cond.selects C y y).before args s = true)
    (hcode : (Cond.codeWith y bytes maxL ret hh).before args s = true) (hy : y.cls ≠ "java/lang/invoke/MethodHandle" ∧ y.cls ≠ "java/lang/invoke/VarHandle")
    {W9 : Nat} {Pre : Pt → Array Value → Prop} {Post : Pt → Array Value → Option Value → Pt → Prop} {PostX : Pt → Array Value → Addr → Pt → Prop} (hK : vx_Back l R p e below s args y 3 W9 Pre Post PostX)
    {b : Addr} {cellB : Cell} (hcell : T.heap[b]? = some cellB) (hobj : cellB.vm.isStatics = false) (hcls : s.vm.findClass C = some cellB.cls)
    {g : JFrame} (hg : g.method = m) (hsize : g.locals.size = c.maxLocals) {argsL rest : List Value} (hlen : ∀ sig, parseMethodDescriptor y.desc = some sig → argsL.length = sig.parameters.length)
    (hstack : g.stack = argsL.reverse ++ .ref b :: rest) (hW : 2 * g.monitorRoom + (rest.map fun v => v.category).sum ≤ W9) (hdg : decode c.code g.pc = .ok (.invokevirtual index, 3))
    (hpre : ∀ vm₁, s.WarmedH vm₁ → Pre ⟨T.setVm vm₁, locs, cells, slots⟩ (Value.ref b :: argsL).toArray) :
    (∃ (v : Option Value) (vm₁ : Vm) (B : Pt), s.WarmedH vm₁ ∧ Stand p l e R s m args below meth c B.U B.locs B.cells B.slots ∧ Post ⟨T.setVm vm₁, locs, cells, slots⟩ (Value.ref b :: argsL).toArray v B ∧
      ∀ target, Steps p.tables e below (B.U.setTop { g with pc := g.pc + 3, stack := v.toList ++ rest }) target → Steps p.tables e below (T.setTop g) target) ∨
    (∃ (q : Addr) (vm₁ : Vm) (B : Pt), s.WarmedH vm₁ ∧ Stand p l e R s m args below meth c B.U B.locs B.cells B.slots ∧ PostX ⟨T.setVm vm₁, locs, cells, slots⟩ (Value.ref b :: argsL).toArray q B ∧
      Steps p.tables e below (T.setTop g) ((B.U.setTop { g with stack := rest }).pushFrame (.throwing q))) := by
  obtain ⟨mk, methM, hnamed, hmethM, hstM, habM⟩ := Cond.instanceMethod_spec hinst
  obtain ⟨m8, methM', cM, hn8, hmethM', -, -, -, -, -, -, hsigM⟩ := Cond.codeWith_spec hcode
  cases Option.some.inj (hn8.symm.trans hnamed)
  cases hmethM.symm.trans hmethM'
  obtain ⟨c2, r2, m2, q1, q2, q3, q4, kP, hkP, hkPi⟩ := Cond.selects_spec hsel
  cases hcls.symm.trans q1
  cases (State.methodFound?_of_named hnamed hy).symm.trans q2
  cases hnamed.symm.trans q3
  have hselP : selectMethod e.platform s.vm cellB.cls mk = .method mk := by rw [Launch.admits_selectMethod X.admits]; exact q4
  obtain ⟨vm₁, X₁, hstep₁⟩ := X.invokevirtual hexec hown hlink hnamed hmethM hstM hkP hkPi hy (a := b) (cell := cellB) hcell
    (fun z h => by rw [h] at hobj; cases hobj) hselP hmethM habM hkP hkPi (g := g) hg (argsL := argsL) (rest := rest) (hlen _ hsigM) hstack hdg
  rcases hK m meth c ⟨T.setVm vm₁, locs, cells, slots⟩ { g with stack := rest } (.invokevirtual index) mk (Value.ref b :: argsL).toArray X₁ hg hsize hdg hW (X₁.named hnamed) (hpre vm₁ X₁.warmed) with ⟨v, B, X', hpost, hsteps⟩ | ⟨q, B, X', hpost, hsteps⟩
  · exact Or.inl ⟨v, vm₁, B, X₁.warmed, X', hpost, fun target h => hstep₁ _ fun acts => by rw [doInvoke_state]; exact hsteps.trans h⟩
  · exact Or.inr ⟨q, vm₁, B, X₁.warmed, X', hpost, hstep₁ _ fun acts => by rw [doInvoke_state]; exact hsteps⟩
theorem vx_callSX (X : Stand p l e R s m args below meth c T locs cells slots) (hexec : p.tables.exec = Jvm.exec) {own : String} {index : Nat} {y : MethodName} {bytes : ByteArray} {maxL : Nat} {ret : Option FieldType} {hh : List (Nat × Nat × Nat × Nat)}
    (hown : s.vm.findClass own = some m.cls) (hlink : (Cond.methodLink own index y).before args s = true) (hstat : (Cond.static y).before args s = true) (hinit : (Cond.initialized y.cls).before args s = true)
    (hcode : (Cond.codeWith y bytes maxL ret hh).before args s = true) (hy : y.cls ≠ "java/lang/invoke/MethodHandle" ∧ y.cls ≠ "java/lang/invoke/VarHandle")
    {W9 : Nat} {Pre : Pt → Array Value → Prop} {Post : Pt → Array Value → Option Value → Pt → Prop} {PostX : Pt → Array Value → Addr → Pt → Prop} (hK : vx_Back l R p e below s args y 3 W9 Pre Post PostX)
    {g : JFrame} (hg : g.method = m) (hsize : g.locals.size = c.maxLocals) {argsL rest : List Value} (hlen : ∀ sig, parseMethodDescriptor y.desc = some sig → argsL.length = sig.parameters.length)
    (hstack : g.stack = argsL.reverse ++ rest) (hW : 2 * g.monitorRoom + (rest.map fun v => v.category).sum ≤ W9) (hdg : decode c.code g.pc = .ok (.invokestatic index, 3))
    (hpre : ∀ vm₁, s.WarmedH vm₁ → Pre ⟨T.setVm vm₁, locs, cells, slots⟩ argsL.toArray) :
    (∃ (v : Option Value) (vm₁ : Vm) (B : Pt), s.WarmedH vm₁ ∧ Stand p l e R s m args below meth c B.U B.locs B.cells B.slots ∧ Post ⟨T.setVm vm₁, locs, cells, slots⟩ argsL.toArray v B ∧
      ∀ target, Steps p.tables e below (B.U.setTop { g with pc := g.pc + 3, stack := v.toList ++ rest }) target → Steps p.tables e below (T.setTop g) target) ∨
    (∃ (q : Addr) (vm₁ : Vm) (B : Pt), s.WarmedH vm₁ ∧ Stand p l e R s m args below meth c B.U B.locs B.cells B.slots ∧ PostX ⟨T.setVm vm₁, locs, cells, slots⟩ argsL.toArray q B ∧
      Steps p.tables e below (T.setTop g) ((B.U.setTop { g with stack := rest }).pushFrame (.throwing q))) := by
  obtain ⟨mk, methM, cM, hnamed, hmethM, -, -, -, -, -, -, hsigM⟩ := Cond.codeWith_spec hcode
  have hstatic : methM.isStatic = true := Cond.static_spec hnamed hmethM hstat
  obtain ⟨kP, hkP, -⟩ := className_of_methodNamed hnamed
  have hinitP : kP.init = .initialized := Cond.initialized_spec (findClass_of_methodNamed hnamed) hkP hinit
  obtain ⟨vm₁, X₁, hstep₁⟩ := X.invokestatic hexec hown hlink hnamed hmethM hstatic hkP hinitP hy (g := g) hg (argsL := argsL) (rest := rest) (hlen _ hsigM) hstack hdg
  rcases hK m meth c ⟨T.setVm vm₁, locs, cells, slots⟩ { g with stack := rest } (.invokestatic index) mk argsL.toArray X₁ hg hsize hdg hW (X₁.named hnamed) (hpre vm₁ X₁.warmed) with ⟨v, B, X', hpost, hsteps⟩ | ⟨q, B, X', hpost, hsteps⟩
  · exact Or.inl ⟨v, vm₁, B, X₁.warmed, X', hpost, fun target h => hstep₁ _ fun acts => by rw [doInvoke_state]; exact hsteps.trans h⟩
  · exact Or.inr ⟨q, vm₁, B, X₁.warmed, X', hpost, hstep₁ _ fun acts => by rw [doInvoke_state]; exact hsteps⟩
theorem vx_callVW (X : Stand p l e R s m args below meth c T locs cells slots) (hexec : p.tables.exec = Jvm.exec) {own C : String} {index : Nat} {y : MethodName} {bytes : ByteArray} {maxL : Nat} {ret : Option FieldType} {hh : List (Nat × Nat × Nat × Nat)}
    (hown : s.vm.findClass own = some m.cls) (hlink : (Cond.methodLink own index y).before args s = true) (hinst : (Cond.instanceMethod y).before args s = true) (hsel : (Cond.selects C y y).before args s = true)
    (hcode : (Cond.codeWith y bytes maxL ret hh).before args s = true) (hy : y.cls ≠ "java/lang/invoke/MethodHandle" ∧ y.cls ≠ "java/lang/invoke/VarHandle")
    {W9 : Nat} {Pre : Pt → Array Value → Prop} {Post : Pt → Array Value → Option Value → Pt → Prop} (hK : Back l R p e below s args y 3 W9 Pre Post)
    {b : Addr} {cellB : Cell} (hcell : T.heap[b]? = some cellB) (hobj : cellB.vm.isStatics = false) (hcls : s.vm.findClass C = some cellB.cls)
    {g : JFrame} (hg : g.method = m) (hsize : g.locals.size = c.maxLocals) {argsL rest : List Value} (hlen : ∀ sig, parseMethodDescriptor y.desc = some sig → argsL.length = sig.parameters.length)
    (hstack : g.stack = argsL.reverse ++ .ref b :: rest) (hW : 2 * g.monitorRoom + (rest.map fun v => v.category).sum ≤ W9) (hdg : decode c.code g.pc = .ok (.invokevirtual index, 3))
    (hpre : ∀ vm₁, s.WarmedH vm₁ → Pre ⟨T.setVm vm₁, locs, cells, slots⟩ (Value.ref b :: argsL).toArray) :
    ∃ (v : Option Value) (vm₁ : Vm) (B : Pt), s.WarmedH vm₁ ∧ Stand p l e R s m args below meth c B.U B.locs B.cells B.slots ∧ Post ⟨T.setVm vm₁, locs, cells, slots⟩ (Value.ref b :: argsL).toArray v B ∧
      ∀ target, Steps p.tables e below (B.U.setTop { g with pc := g.pc + 3, stack := v.toList ++ rest }) target → Steps p.tables e below (T.setTop g) target := by
  obtain ⟨mk, methM, hnamed, hmethM, hstM, habM⟩ := Cond.instanceMethod_spec hinst
  obtain ⟨m8, methM', cM, hn8, hmethM', -, -, -, -, -, -, hsigM⟩ := Cond.codeWith_spec hcode
  cases Option.some.inj (hn8.symm.trans hnamed)
  cases hmethM.symm.trans hmethM'
  obtain ⟨c2, r2, m2, q1, q2, q3, q4, kP, hkP, hkPi⟩ := Cond.selects_spec hsel
  cases hcls.symm.trans q1
  cases (State.methodFound?_of_named hnamed hy).symm.trans q2
  cases hnamed.symm.trans q3
  have hselP : selectMethod e.platform s.vm cellB.cls mk = .method mk := by rw [Launch.admits_selectMethod X.admits]; exact q4
  obtain ⟨vm₁, X₁, hstep₁⟩ := X.invokevirtual hexec hown hlink hnamed hmethM hstM hkP hkPi hy (a := b) (cell := cellB) hcell
    (fun z h => by rw [h] at hobj; cases hobj) hselP hmethM habM hkP hkPi (g := g) hg (argsL := argsL) (rest := rest) (hlen _ hsigM) hstack hdg
  obtain ⟨v, B, X', hpost, hsteps⟩ := hK m meth c ⟨T.setVm vm₁, locs, cells, slots⟩ { g with stack := rest } (.invokevirtual index) mk (Value.ref b :: argsL).toArray X₁ hg hsize hdg hW (X₁.named hnamed) (hpre vm₁ X₁.warmed)
  exact ⟨v, vm₁, B, X₁.warmed, X', hpost, fun target h => hstep₁ _ fun acts => by rw [doInvoke_state]; exact hsteps.trans h⟩
abbrev vx_CVW (R : Room) (s : State) (args : Array Value) (own C : String) (index : Nat) (y : MethodName) (bytes : ByteArray) (maxL : Nat) (ret : Option FieldType) (hh : List (Nat × Nat × Nat × Nat)) (ws : List Cond) (rm : Room) (mc ms n : Nat) : Prop :=
  (rm.cells = mc ∧ rm.slots = ms ∧ rm.frames + 1 ≤ R.frames ∧ 8 + (maxL + 11) + rm.locals ≤ R.locals ∧ (∀ w ∈ ws, ∀ (a' : Array Value) (U : State), s.WarmedH U.vm → w.before a' U = true) ∧ Cond.codeWith y bytes maxL ret hh ∈ ws) ∧
  (Cond.codeWith y bytes maxL ret hh).before args s = true ∧ (Cond.initialized y.cls).before args s = true ∧ (y.cls ≠ "java/lang/invoke/MethodHandle" ∧ y.cls ≠ "java/lang/invoke/VarHandle") ∧
  (∀ sig, parseMethodDescriptor y.desc = some sig → n = sig.parameters.length) ∧ (Cond.methodLink own index y).before args s = true ∧ (Cond.instanceMethod y).before args s = true ∧ (Cond.selects C y y).before args s = true
theorem vx_cwVW {own C : String} {index maxL mc ms : Nat} {y : MethodName} {bytes : ByteArray} {ret : Option FieldType} {hh : List (Nat × Nat × Nat × Nat)} {Ts ws ws' : List Cond} {rm : Room} (n : Nat) (ht : ∀ w ∈ Ts, w.before args s = true) (hT : GoodIn Ts (wsV own index C y ws)) (hw : ws = Cond.codeWith y bytes maxL ret hh :: ws') (hrc : rm.cells = mc) (hrs : rm.slots = ms)
    (hd : y.cls = C ∧ y.cls ≠ "java/lang/invoke/MethodHandle" ∧ y.cls ≠ "java/lang/invoke/VarHandle" ∧ (parseMethodDescriptor y.desc).map (fun d => d.parameters.length) = some n) (hR : rm.frames + 1 ≤ R.frames ∧ 8 + (maxL + 11) + rm.locals ≤ R.locals) :
    vx_CVW R s args own C index y bytes maxL ret hh ws rm mc ms n := by
  obtain ⟨hC, hd⟩ := hd
  subst hC
  have ok : ∀ w ∈ wsV own index y.cls y ws, w.before args s = true := fun w h => ht w (hT w h).1
  have hG : GoodIn Ts ws := fun w h => hT w (by unfold wsV; exact List.mem_append_right _ h)
  have hc : Cond.codeWith y bytes maxL ret hh ∈ ws := by rw [hw]; exact List.mem_cons_self
  refine ⟨⟨hrc, hrs, hR.1, hR.2, pay_in ht hG, hc⟩, ht _ (hG _ hc).1, ok _ (by simp [wsV]), ⟨hd.1, hd.2.1⟩, fun sig h => ?_, ok _ (by simp [wsV]), ok _ (by simp [wsV]), ok _ (by simp [wsV])⟩
  have h2 := hd.2.2
  rw [h] at h2
  exact (Option.some.inj h2).symm
theorem vx_runVW {y : MethodName} {bytes cc : ByteArray} {maxL nL mc ms n index : Nat} {ret : Option FieldType} {hh : List (Nat × Nat × Nat × Nat)} {ws : List Cond} {rm : Room} {Pc : Array Value → State → Prop} {Qc : Array Value → State → Outcome → State → Prop} {free : Addr → Prop} {Ts : List Cond} {own C : String} {b : Addr} {As rest : List Value} {g : JFrame}
    (S : CallFix p m c cc nL s args Ts own) (hM : Met l y ws rm Pc Qc mc ms free) (cw : vx_CVW R s args own C index y bytes maxL ret hh ws rm mc ms n) (hp : PreV s H C b Pc As)
    (hg : g.method = m) (hn : As.length = n) (hsize : g.locals.size = nL) (hstack : g.stack = As.reverse ++ .ref b :: rest) (hW : 2 * g.monitorRoom + (rest.map fun v => v.category).sum ≤ 8) (hdg : decode cc g.pc = .ok (.invokevirtual index, 3)) (hf : cells + mc ≤ R.cells ∧ slots + ms ≤ R.slots) :
    va_Run p l e R s m args below meth c H locs cells slots mc ms g rest (Qc (Value.ref b :: As).toArray) free := by
  obtain ⟨⟨hrc, hrs, hfr, hlo, hws, hcw⟩, hcode, hini, hy, hlen, hl, hin, hse⟩ := cw
  have hK : Back l R p e below s args y 3 8 (PreOf R mc ms Pc) (PostOf Qc mc ms free) := va_backW (hh := hh) (bytes := bytes) (maxL := maxL) (ret := ret) hM hp.1 hrc hrs hfr hlo hws hcw (fun a' U hW => word_at hW (Or.inl (by first | rfl | simp [Cond.onTables, Cond.keeps, Cond.steady])) hini)
  obtain ⟨hx, hb, hml, ho, -⟩ := S
  obtain ⟨-, ⟨cellB, hcB, hoB, hclB⟩, hPc⟩ := hp
  intro T hT X
  obtain ⟨v, vm₁, ⟨U', l2, c2, s2⟩, hW₁, X', ⟨g', mk, t, L, e1, e2, hq, h1, hL, h2, h3⟩, st⟩ := vx_callVW X hx (C := C) (hh := hh) (bytes := bytes) (maxL := maxL) (ret := ret) ho hl hin hse hcode hy hK (by rw [hT]; exact hcB) hoB hclB hg (hsize.trans hml.symm) (argsL := As) (rest := rest) (fun sig h => hn.trans (hlen sig h)) hstack hW (by rw [hb]; exact hdg)
    (fun vm₁ hW₁ => ⟨hf.1, hf.2, hPc (T.setVm vm₁) hT hW₁⟩)
  dsimp only [Pt.U, Pt.locs, Pt.cells, Pt.slots] at X' e1 e2 h1 h2 h3 st
  subst h1; subst h2; subst h3
  exact ⟨v, (T.setVm vm₁).calling g' mk (Value.ref b :: As).toArray, t, U', L, hT, X', hL, e1, e2, hq, st⟩
section
variable {y : MethodName} {bytes cc : ByteArray} {maxL nL mc ms n index : Nat} {ret : Option FieldType} {ws : List Cond} {rm : Room} {Pc : Array Value → State → Prop} {Qc : Array Value → State → Outcome → State → Prop} {XC : String → State → State → Prop} {free : Addr → Prop} {Ts : List Cond} {own C : String} {b : Addr} {As rest : List Value} {g : JFrame}
theorem vx_runVX {hh : List (Nat × Nat × Nat × Nat)} (S : CallFix p m c cc nL s args Ts own) (hM : vx_Met l y ws rm Pc Qc XC mc ms free) (cw : vx_CVW R s args own C index y bytes maxL ret hh ws rm mc ms n) (hp : PreV s H C b Pc As)
    (hg : g.method = m) (hn : As.length = n) (hsize : g.locals.size = nL) (hstack : g.stack = As.reverse ++ .ref b :: rest) (hW : 2 * g.monitorRoom + (rest.map fun v => v.category).sum ≤ 8) (hdg : decode cc g.pc = .ok (.invokevirtual index, 3)) (hf : cells + mc ≤ R.cells ∧ slots + ms ≤ R.slots) :
    vx_Run p l e R s m args below meth c H locs cells slots mc ms g rest (Qc (Value.ref b :: As).toArray) XC free := by
  obtain ⟨⟨hrc, hrs, hfr, hlo, hws, hcw⟩, hcode, hini, hy, hlen, hl, hin, hse⟩ := cw
  have hK : vx_Back l R p e below s args y 3 8 (PreOf R mc ms Pc) (PostOf Qc mc ms free) (vx_Post XC mc ms free) := vx_backW (hh := hh) (bytes := bytes) (maxL := maxL) (ret := ret) hM hp.1 hrc hrs hfr hlo hws hcw (fun a' U hW => word_at hW (Or.inl (by first | rfl | simp [Cond.onTables, Cond.keeps, Cond.steady])) hini)
  obtain ⟨hx, hb, hml, ho, -⟩ := S
  obtain ⟨-, ⟨cellB, hcB, hoB, hclB⟩, hPc⟩ := hp
  intro T hT X
  rcases vx_callVX X hx (C := C) (hh := hh) (bytes := bytes) (maxL := maxL) (ret := ret) ho hl hin hse hcode hy hK (by rw [hT]; exact hcB) hoB hclB hg (hsize.trans hml.symm) (argsL := As) (rest := rest) (fun sig h => hn.trans (hlen sig h)) hstack hW (by rw [hb]; exact hdg)
    (fun vm₁ hW₁ => ⟨hf.1, hf.2, hPc (T.setVm vm₁) hT hW₁⟩) with ⟨v, vm₁, ⟨U', l2, c2, s2⟩, hW₁, X', ⟨g', mk, t, L, e1, e2, hq, h1, hL, h2, h3⟩, st⟩ | ⟨q, vm₁, ⟨U', l2, c2, s2⟩, hW₁, X', ⟨g', mk, t, L, E, ce, e1, e2, hq, hce, hcv, hcl, h1, hL, h2, h3⟩, st⟩
  · dsimp only [Pt.U, Pt.locs, Pt.cells, Pt.slots] at X' e1 e2 h1 h2 h3 st
    subst h1; subst h2; subst h3
    exact Or.inl ⟨v, (T.setVm vm₁).calling g' mk (Value.ref b :: As).toArray, t, U', L, hT, X', hL, e1, e2, hq, st⟩
  · dsimp only [Pt.U, Pt.locs, Pt.cells, Pt.slots] at X' e1 e2 h1 h2 h3 st hcl
    subst h1; subst h2; subst h3
    exact Or.inr ⟨q, (T.setVm vm₁).calling g' mk (Value.ref b :: As).toArray, t, U', L, E, ce, hT, X', hL, e1, e2, hq, hce, hcv, vx_cls hW₁ hcl, st⟩
theorem vx_runSX {hh : List (Nat × Nat × Nat × Nat)} (S : CallFix p m c cc nL s args Ts own) (hM : vx_Met l y ws rm Pc Qc XC mc ms free) (cw : vx_CSW R s args own index y bytes maxL ret hh ws rm mc ms n) (hp : PreS s H Pc As)
    (hg : g.method = m) (hn : As.length = n) (hsize : g.locals.size = nL) (hstack : g.stack = As.reverse ++ rest) (hW : 2 * g.monitorRoom + (rest.map fun v => v.category).sum ≤ 8) (hdg : decode cc g.pc = .ok (.invokestatic index, 3)) (hf : cells + mc ≤ R.cells ∧ slots + ms ≤ R.slots) :
    vx_Run p l e R s m args below meth c H locs cells slots mc ms g rest (Qc As.toArray) XC free := by
  obtain ⟨⟨hrc, hrs, hfr, hlo, hws, hcw⟩, hcode, hini, hy, hlen, hl, hstt⟩ := cw
  have hK : vx_Back l R p e below s args y 3 8 (PreOf R mc ms Pc) (PostOf Qc mc ms free) (vx_Post XC mc ms free) := vx_backW (hh := hh) (bytes := bytes) (maxL := maxL) (ret := ret) hM hp.1 hrc hrs hfr hlo hws hcw (fun a' U hW => word_at hW (Or.inl (by first | rfl | simp [Cond.onTables, Cond.keeps, Cond.steady])) hini)
  obtain ⟨hx, hb, hml, ho, -⟩ := S
  intro T hT X
  rcases vx_callSX X hx (hh := hh) (bytes := bytes) (maxL := maxL) (ret := ret) ho hl hstt hini hcode hy hK hg (hsize.trans hml.symm) (argsL := As) (rest := rest) (fun sig h => hn.trans (hlen sig h)) hstack hW (by rw [hb]; exact hdg)
    (fun vm₁ hW₁ => ⟨hf.1, hf.2, hp.2 (T.setVm vm₁) hT hW₁⟩) with ⟨v, vm₁, ⟨U', l2, c2, s2⟩, hW₁, X', ⟨g', mk, t, L, e1, e2, hq, h1, hL, h2, h3⟩, st⟩ | ⟨q, vm₁, ⟨U', l2, c2, s2⟩, hW₁, X', ⟨g', mk, t, L, E, ce, e1, e2, hq, hce, hcv, hcl, h1, hL, h2, h3⟩, st⟩
  · dsimp only [Pt.U, Pt.locs, Pt.cells, Pt.slots] at X' e1 e2 h1 h2 h3 st
    subst h1; subst h2; subst h3
    exact Or.inl ⟨v, (T.setVm vm₁).calling g' mk As.toArray, t, U', L, hT, X', hL, e1, e2, hq, st⟩
  · dsimp only [Pt.U, Pt.locs, Pt.cells, Pt.slots] at X' e1 e2 h1 h2 h3 st hcl
    subst h1; subst h2; subst h3
    exact Or.inr ⟨q, (T.setVm vm₁).calling g' mk As.toArray, t, U', L, E, ce, hT, X', hL, e1, e2, hq, hce, hcv, vx_cls hW₁ hcl, st⟩
end
end VXH
theorem vx_ofWH {l : Launch} {y : MethodName} {ws ws' : List Cond} {rm : Room} {Pc : Array Value → State → Prop} {Qc : Array Value → State → Outcome → State → Prop} {XC : String → State → State → Prop} {mc ms : Nat} {free : Addr → Prop} {cc : ByteArray} {maxL : Nat} {ret : Option FieldType} {hh : List (Nat × Nat × Nat × Nat)}
    (hy : plainName y.cls = true) (hw : ws = Cond.codeWith y cc maxL ret hh :: ws')
    (body : ∀ p e s m args below meth c s₁, BodyLoose p l y (headSpec ws rm) cc maxL ret e s m args below meth c s₁ → c.maxLocals = maxL → Pc args s →
      W p l e (headSpec ws rm).room s m args below meth c s.heap [] 0 0 (vx_MQ below Qc XC args s mc ms free) (entryFrame m args maxL)) : vx_Met l y ws rm Pc Qc XC mc ms free := by
  refine MetFree.of_bodyS (code := cc) (maxLocals := maxL) (ret := ret) hy ?_ ?_
  · intro args s m h hn
    obtain ⟨m9, meth, c, hn9, h1, h2, h3, h4, -, h5, h6, -⟩ := Cond.codeWith_spec (atoms_spec (ws := ws) h _ (by rw [hw]; exact List.mem_cons_self))
    cases hn.symm.trans hn9
    exact ⟨meth, c, h1, h2, h3, h4, h5, h6⟩
  · intro p e s m args below meth c s₁ B hml hP _
    have hh0 : s₁.heap = s.heap := by rw [B.state]; rfl
    obtain ⟨t, a1, o, b1, b2, b3⟩ := body p e s m args below meth c s₁ B hml hP s₁ hh0 (Stand.of_body B)
    exact ⟨t, o, a1, b1, b2, b3⟩
/-! ===== END ===== -/
end
section
def RD : String := "BufferDesk$Drive"
def TD : u_T := fun k => match k with
  | 0 => ("BufferDesk$Drive", "bytes", "[B", true)
  | 1 => ("BufferDesk$Drive", "sectorsLeft", "I", false)
  | 2 => ("BufferDesk$Drive", "sectorsWritten", "I", false)
  | _ => ("BufferDesk$Drive", "pagesRead", "I", false)
def tyD : Nat → FieldType := fun k => match k with
  | 0 => .array .byte
  | 1 => .int
  | 2 => .int
  | _ => .int
theorem nmD : ∀ a, a < 4 → ∀ b, b < 4 → a ≠ b → (TD a).2.1 ≠ (TD b).2.1 := by decide +kernel
theorem tyD_ok : ∀ k, k < 4 → parseFieldDescriptor (TD k).2.2.1 = some (tyD k) := by decide +kernel
def RF : String := "BufferDesk$Frame"
def TF : u_T := fun k => match k with
  | 0 => ("BufferDesk$Frame", "bytes", "[B", true)
  | 1 => ("BufferDesk$Frame", "page", "I", false)
  | 2 => ("BufferDesk$Frame", "pins", "I", false)
  | 3 => ("BufferDesk$Frame", "use", "I", false)
  | _ => ("BufferDesk$Frame", "dirty", "Z", false)
def tyF : Nat → FieldType := fun k => match k with
  | 0 => .array .byte
  | 1 => .int
  | 2 => .int
  | 3 => .int
  | _ => .boolean
theorem nmF : ∀ a, a < 5 → ∀ b, b < 5 → a ≠ b → (TF a).2.1 ≠ (TF b).2.1 := by decide +kernel
theorem tyF_ok : ∀ k, k < 5 → parseFieldDescriptor (TF k).2.2.1 = some (tyF k) := by decide +kernel
def RG : String := "BufferDesk$Log"
def TG : u_T := fun k => match k with
  | 0 => ("BufferDesk$Log", "end", "I", false)
  | _ => ("BufferDesk$Log", "flushes", "I", false)
def tyG : Nat → FieldType := fun k => match k with
  | 0 => .int
  | _ => .int
theorem nmG : ∀ a, a < 2 → ∀ b, b < 2 → a ≠ b → (TG a).2.1 ≠ (TG b).2.1 := by decide +kernel
theorem tyG_ok : ∀ k, k < 2 → parseFieldDescriptor (TG k).2.2.1 = some (tyG k) := by decide +kernel
def RB : String := "BufferDesk"
def TB : u_T := fun k => match k with
  | 0 => ("BufferDesk", "drive", "LBufferDesk$Drive;", true)
  | 1 => ("BufferDesk", "log", "LBufferDesk$Log;", true)
  | 2 => ("BufferDesk", "frames", "[LBufferDesk$Frame;", true)
  | _ => ("BufferDesk", "hand", "I", false)
def tyB : Nat → FieldType := fun k => match k with
  | 0 => .object "BufferDesk$Drive"
  | 1 => .object "BufferDesk$Log"
  | 2 => .array (.object "BufferDesk$Frame")
  | _ => .int
theorem nmB : ∀ a, a < 4 → ∀ b, b < 4 → a ≠ b → (TB a).2.1 ≠ (TB b).2.1 := by decide +kernel
theorem tyB_ok : ∀ k, k < 4 → parseFieldDescriptor (TB k).2.2.1 = some (tyB k) := by decide +kernel
def RM : String := "BufferDeskModel"
def TM : u_T := fun k => match k with
  | 0 => ("BufferDeskModel", "thrown", "I", false)
  | 1 => ("BufferDeskModel", "now", "I", false)
  | 2 => ("BufferDeskModel", "changePage", "[S", true)
  | 3 => ("BufferDeskModel", "changeByte", "[S", true)
  | 4 => ("BufferDeskModel", "changeValue", "[S", true)
  | 5 => ("BufferDeskModel", "changePlace", "[I", true)
  | 6 => ("BufferDeskModel", "byteLost", "[Z", true)
  | 7 => ("BufferDeskModel", "placeLost", "[Z", true)
  | 8 => ("BufferDeskModel", "from", "[S", true)
  | 9 => ("BufferDeskModel", "to", "[S", true)
  | 10 => ("BufferDeskModel", "firstStamp", "[I", true)
  | 11 => ("BufferDeskModel", "lastStamp", "[I", true)
  | 12 => ("BufferDeskModel", "page", "[I", true)
  | 13 => ("BufferDeskModel", "pins", "[I", true)
  | 14 => ("BufferDeskModel", "use", "[I", true)
  | 15 => ("BufferDeskModel", "dirty", "[Z", true)
  | 16 => ("BufferDeskModel", "stamp", "[I", true)
  | 17 => ("BufferDeskModel", "base", "[I", true)
  | 18 => ("BufferDeskModel", "hand", "I", false)
  | 19 => ("BufferDeskModel", "flushedTo", "I", false)
  | 20 => ("BufferDeskModel", "flushes", "I", false)
  | 21 => ("BufferDeskModel", "reads", "I", false)
  | 22 => ("BufferDeskModel", "written", "I", false)
  | _ => ("BufferDeskModel", "left", "I", false)
def tyM : Nat → FieldType := fun k => match k with
  | 0 => .int
  | 1 => .int
  | 2 => .array .short
  | 3 => .array .short
  | 4 => .array .short
  | 5 => .array .int
  | 6 => .array .boolean
  | 7 => .array .boolean
  | 8 => .array .short
  | 9 => .array .short
  | 10 => .array .int
  | 11 => .array .int
  | 12 => .array .int
  | 13 => .array .int
  | 14 => .array .int
  | 15 => .array .boolean
  | 16 => .array .int
  | 17 => .array .int
  | 18 => .int
  | 19 => .int
  | 20 => .int
  | 21 => .int
  | 22 => .int
  | _ => .int
theorem nmM : ∀ a, a < 24 → ∀ b, b < 24 → a ≠ b → (TM a).2.1 ≠ (TM b).2.1 := by decide +kernel
theorem tyM_ok : ∀ k, k < 24 → parseFieldDescriptor (TM k).2.2.1 = some (tyM k) := by decide +kernel
def RL : String := "BufferDeskLaw"
abbrev clB : List vw_C := [(RD, TD, 4), (RF, TF, 5), (RG, TG, 2), (RB, TB, 4), (RM, TM, 24)]
/-- the good words of the tables -/
def lwg : List Cond := lw_tbl.filter goodWord
theorem lwg_mem {w : Cond} (i : Nat) (h : lw_tbl[i]? = some w) (hg : goodWord w = true) : w ∈ lwg := List.mem_filter.mpr ⟨List.mem_of_getElem? h, hg⟩
theorem lwg_good {w : Cond} (h : w ∈ lwg) : goodWord w = true := (List.mem_filter.mp h).2
theorem lwg_in {w : Cond} (h : w ∈ lwg) : w ∈ lw_tbl := (List.mem_filter.mp h).1
abbrev cB_init : ByteArray := prog_1_method_1_code
def yB_init : MethodName := ⟨RB, "<init>", "()V"⟩
abbrev kB_init : Cond := .code yB_init cB_init 2 none
abbrev wB_init : List Cond := kB_init :: lwg
abbrev cD_init : ByteArray := prog_2_method_1_code
def yD_init : MethodName := ⟨RD, "<init>", "()V"⟩
abbrev kD_init : Cond := .code yD_init cD_init 1 none
abbrev wD_init : List Cond := kD_init :: lwg
abbrev cG_init : ByteArray := prog_4_method_1_code
def yG_init : MethodName := ⟨RG, "<init>", "()V"⟩
abbrev kG_init : Cond := .code yG_init cG_init 1 none
abbrev wG_init : List Cond := kG_init :: lwg
abbrev cF_init : ByteArray := prog_3_method_1_code
def yF_init : MethodName := ⟨RF, "<init>", "()V"⟩
abbrev kF_init : Cond := .code yF_init cF_init 1 none
abbrev wF_init : List Cond := kF_init :: lwg
abbrev cB_unpin : ByteArray := prog_1_method_4_code
def yB_unpin : MethodName := ⟨RB, "unpin", "(I)Z"⟩
abbrev kB_unpin : Cond := .code yB_unpin cB_unpin 2 (some .boolean)
abbrev wB_unpin : List Cond := kB_unpin :: lwg
abbrev cB_isFrame : ByteArray := prog_1_method_16_code
def yB_isFrame : MethodName := ⟨RB, "isFrame", "(I)Z"⟩
abbrev kB_isFrame : Cond := .code yB_isFrame cB_isFrame 1 (some .boolean)
abbrev wB_isFrame : List Cond := kB_isFrame :: lwg
abbrev cF_hasPins : ByteArray := prog_3_method_3_code
def yF_hasPins : MethodName := ⟨RF, "hasPins", "()Z"⟩
abbrev kF_hasPins : Cond := .code yF_hasPins cF_hasPins 1 (some .boolean)
abbrev wF_hasPins : List Cond := kF_hasPins :: lwg
abbrev cF_dropPin : ByteArray := prog_3_method_6_code
def yF_dropPin : MethodName := ⟨RF, "dropPin", "()V"⟩
abbrev kF_dropPin : Cond := .code yF_dropPin cF_dropPin 1 none
abbrev wF_dropPin : List Cond := kF_dropPin :: lwg
abbrev cB_get : ByteArray := prog_1_method_5_code
def yB_get : MethodName := ⟨RB, "get", "(II)I"⟩
abbrev kB_get : Cond := .code yB_get cB_get 3 (some .int)
abbrev wB_get : List Cond := kB_get :: lwg
abbrev cB_isByte : ByteArray := prog_1_method_17_code
def yB_isByte : MethodName := ⟨RB, "isByte", "(I)Z"⟩
abbrev kB_isByte : Cond := .code yB_isByte cB_isByte 1 (some .boolean)
abbrev wB_isByte : List Cond := kB_isByte :: lwg
abbrev cF_isEmpty : ByteArray := prog_3_method_2_code
def yF_isEmpty : MethodName := ⟨RF, "isEmpty", "()Z"⟩
abbrev kF_isEmpty : Cond := .code yF_isEmpty cF_isEmpty 1 (some .boolean)
abbrev wF_isEmpty : List Cond := kF_isEmpty :: lwg
abbrev cB_set : ByteArray := prog_1_method_6_code
def yB_set : MethodName := ⟨RB, "set", "(IIII)Z"⟩
abbrev kB_set : Cond := .code yB_set cB_set 5 (some .boolean)
abbrev wB_set : List Cond := kB_set :: lwg
abbrev cF_place : ByteArray := prog_3_method_10_code
def yF_place : MethodName := ⟨RF, "place", "()I"⟩
abbrev kF_place : Cond := .code yF_place cF_place 1 (some .int)
abbrev wF_place : List Cond := kF_place :: lwg
abbrev cB_twoBytes : ByteArray := prog_1_method_19_code
def yB_twoBytes : MethodName := ⟨RB, "twoBytes", "([BI)I"⟩
abbrev kB_twoBytes : Cond := .code yB_twoBytes cB_twoBytes 2 (some .int)
abbrev wB_twoBytes : List Cond := kB_twoBytes :: lwg
abbrev cF_change : ByteArray := prog_3_method_11_code
def yF_change : MethodName := ⟨RF, "change", "(III)V"⟩
abbrev kF_change : Cond := .code yF_change cF_change 4 none
abbrev wF_change : List Cond := kF_change :: lwg
abbrev cB_flushed : ByteArray := prog_1_method_10_code
def yB_flushed : MethodName := ⟨RB, "flushed", "(I)Z"⟩
abbrev kB_flushed : Cond := .code yB_flushed cB_flushed 2 (some .boolean)
abbrev wB_flushed : List Cond := kB_flushed :: lwg
abbrev cG_advance : ByteArray := prog_4_method_2_code
def yG_advance : MethodName := ⟨RG, "advance", "(I)Z"⟩
abbrev kG_advance : Cond := .code yG_advance cG_advance 2 (some .boolean)
abbrev wG_advance : List Cond := kG_advance :: lwg
abbrev cB_look : ByteArray := prog_1_method_11_code
def yB_look : MethodName := ⟨RB, "look", "(II)I"⟩
abbrev kB_look : Cond := .code yB_look cB_look 3 (some .int)
abbrev wB_look : List Cond := kB_look :: lwg
abbrev cB_disk : ByteArray := prog_1_method_12_code
def yB_disk : MethodName := ⟨RB, "disk", "(II)I"⟩
abbrev kB_disk : Cond := .code yB_disk cB_disk 3 (some .int)
abbrev wB_disk : List Cond := kB_disk :: lwg
abbrev cB_isPage : ByteArray := prog_1_method_15_code
def yB_isPage : MethodName := ⟨RB, "isPage", "(I)Z"⟩
abbrev kB_isPage : Cond := .code yB_isPage cB_isPage 1 (some .boolean)
abbrev wB_isPage : List Cond := kB_isPage :: lwg
abbrev cD_byteAt : ByteArray := prog_2_method_2_code
def yD_byteAt : MethodName := ⟨RD, "byteAt", "(II)I"⟩
abbrev kD_byteAt : Cond := .code yD_byteAt cD_byteAt 3 (some .int)
abbrev wD_byteAt : List Cond := kD_byteAt :: lwg
abbrev cB_torn : ByteArray := prog_1_method_13_code
def yB_torn : MethodName := ⟨RB, "torn", "(I)Z"⟩
abbrev kB_torn : Cond := .code yB_torn cB_torn 2 (some .boolean)
abbrev wB_torn : List Cond := kB_torn :: lwg
abbrev cD_isTorn : ByteArray := prog_2_method_4_code
def yD_isTorn : MethodName := ⟨RD, "isTorn", "(I)Z"⟩
abbrev kD_isTorn : Cond := .code yD_isTorn cD_isTorn 2 (some .boolean)
abbrev wD_isTorn : List Cond := kD_isTorn :: lwg
abbrev cD_firstStamp : ByteArray := prog_2_method_3_code
def yD_firstStamp : MethodName := ⟨RD, "firstStamp", "(I)I"⟩
abbrev kD_firstStamp : Cond := .code yD_firstStamp cD_firstStamp 2 (some .int)
abbrev wD_firstStamp : List Cond := kD_firstStamp :: lwg
abbrev cB_count : ByteArray := prog_1_method_14_code
def yB_count : MethodName := ⟨RB, "count", "(I)I"⟩
abbrev kB_count : Cond := .code yB_count cB_count 2 (some .int)
abbrev wB_count : List Cond := kB_count :: lwg
abbrev cB_framesWithPages : ByteArray := prog_1_method_22_code
def yB_framesWithPages : MethodName := ⟨RB, "framesWithPages", "()I"⟩
abbrev kB_framesWithPages : Cond := .code yB_framesWithPages cB_framesWithPages 3 (some .int)
abbrev wB_framesWithPages : List Cond := kB_framesWithPages :: lwg
abbrev cL_pin : ByteArray := method_3_code
def yL_pin : MethodName := ⟨RL, "pin", "(LBufferDesk;I[J)I"⟩
abbrev hL_pin : List (Nat × Nat × Nat × Nat) := [(0, 9, 12, 13), (0, 9, 15, 15), (0, 9, 18, 17), (0, 9, 21, 19)]
abbrev kL_pin : Cond := .codeWith yL_pin cL_pin 4 (some .int) hL_pin
abbrev wL_pin : List Cond := kL_pin :: lwg
abbrev cB_pin : ByteArray := prog_1_method_2_code
def yB_pin : MethodName := ⟨RB, "pin", "(I)I"⟩
abbrev kB_pin : Cond := .code yB_pin cB_pin 4 (some .int)
abbrev wB_pin : List Cond := kB_pin :: lwg
abbrev cB_frameWith : ByteArray := prog_1_method_20_code
def yB_frameWith : MethodName := ⟨RB, "frameWith", "(I)I"⟩
abbrev kB_frameWith : Cond := .code yB_frameWith cB_frameWith 3 (some .int)
abbrev wB_frameWith : List Cond := kB_frameWith :: lwg
abbrev cF_addPin : ByteArray := prog_3_method_5_code
def yF_addPin : MethodName := ⟨RF, "addPin", "()V"⟩
abbrev kF_addPin : Cond := .code yF_addPin cF_addPin 1 none
abbrev wF_addPin : List Cond := kF_addPin :: lwg
abbrev cJM_min : ByteArray := prog_10_method_69_code
def yJM_min : MethodName := ⟨"java/lang/Math", "min", "(II)I"⟩
abbrev kJM_min : Cond := .code yJM_min cJM_min 2 (some .int)
abbrev wJM_min : List Cond := kJM_min :: lwg
abbrev cB_allHavePins : ByteArray := prog_1_method_21_code
def yB_allHavePins : MethodName := ⟨RB, "allHavePins", "()Z"⟩
abbrev kB_allHavePins : Cond := .code yB_allHavePins cB_allHavePins 2 (some .boolean)
abbrev wB_allHavePins : List Cond := kB_allHavePins :: lwg
abbrev cB_findFrame : ByteArray := prog_1_method_24_code
def yB_findFrame : MethodName := ⟨RB, "findFrame", "()I"⟩
abbrev kB_findFrame : Cond := .code yB_findFrame cB_findFrame 2 (some .int)
abbrev wB_findFrame : List Cond := kB_findFrame :: lwg
abbrev cB_frameByHand : ByteArray := prog_1_method_25_code
def yB_frameByHand : MethodName := ⟨RB, "frameByHand", "()I"⟩
abbrev kB_frameByHand : Cond := .code yB_frameByHand cB_frameByHand 2 (some .int)
abbrev wB_frameByHand : List Cond := kB_frameByHand :: lwg
abbrev cF_canBeTaken : ByteArray := prog_3_method_4_code
def yF_canBeTaken : MethodName := ⟨RF, "canBeTaken", "()Z"⟩
abbrev kF_canBeTaken : Cond := .code yF_canBeTaken cF_canBeTaken 1 (some .boolean)
abbrev wF_canBeTaken : List Cond := kF_canBeTaken :: lwg
abbrev cF_passBy : ByteArray := prog_3_method_7_code
def yF_passBy : MethodName := ⟨RF, "passBy", "()V"⟩
abbrev kF_passBy : Cond := .code yF_passBy cF_passBy 1 none
abbrev wF_passBy : List Cond := kF_passBy :: lwg
abbrev cB_frameBehind : ByteArray := prog_1_method_18_code
def yB_frameBehind : MethodName := ⟨RB, "frameBehind", "(I)I"⟩
abbrev kB_frameBehind : Cond := .code yB_frameBehind cB_frameBehind 1 (some .int)
abbrev wB_frameBehind : List Cond := kB_frameBehind :: lwg
abbrev cB_writePageOf : ByteArray := prog_1_method_26_code
def yB_writePageOf : MethodName := ⟨RB, "writePageOf", "(LBufferDesk$Frame;)V"⟩
abbrev kB_writePageOf : Cond := .code yB_writePageOf cB_writePageOf 3 none
abbrev wB_writePageOf : List Cond := kB_writePageOf :: lwg
abbrev cG_reach : ByteArray := prog_4_method_3_code
def yG_reach : MethodName := ⟨RG, "reach", "(I)V"⟩
abbrev kG_reach : Cond := .code yG_reach cG_reach 2 none
abbrev wG_reach : List Cond := kG_reach :: lwg
abbrev cF_raiseStamps : ByteArray := prog_3_method_13_code
def yF_raiseStamps : MethodName := ⟨RF, "raiseStamps", "()V"⟩
abbrev kF_raiseStamps : Cond := .code yF_raiseStamps cF_raiseStamps 1 none
abbrev wF_raiseStamps : List Cond := kF_raiseStamps :: lwg
abbrev cF_putStamps : ByteArray := prog_3_method_14_code
def yF_putStamps : MethodName := ⟨RF, "putStamps", "(I)V"⟩
abbrev kF_putStamps : Cond := .code yF_putStamps cF_putStamps 2 none
abbrev wF_putStamps : List Cond := kF_putStamps :: lwg
abbrev cD_writeSector : ByteArray := prog_2_method_6_code
def yD_writeSector : MethodName := ⟨RD, "writeSector", "(II[B)Z"⟩
abbrev kD_writeSector : Cond := .code yD_writeSector cD_writeSector 5 (some .boolean)
abbrev wD_writeSector : List Cond := kD_writeSector :: lwg
abbrev cB_losePower : ByteArray := prog_1_method_27_code
def yB_losePower : MethodName := ⟨RB, "losePower", "()V"⟩
abbrev kB_losePower : Cond := .code yB_losePower cB_losePower 2 none
abbrev wB_losePower : List Cond := kB_losePower :: lwg
abbrev cF_dropPage : ByteArray := prog_3_method_9_code
def yF_dropPage : MethodName := ⟨RF, "dropPage", "()V"⟩
abbrev kF_dropPage : Cond := .code yF_dropPage cF_dropPage 1 none
abbrev wF_dropPage : List Cond := kF_dropPage :: lwg
abbrev cF_takePage : ByteArray := prog_3_method_8_code
def yF_takePage : MethodName := ⟨RF, "takePage", "(I)V"⟩
abbrev kF_takePage : Cond := .code yF_takePage cF_takePage 2 none
abbrev wF_takePage : List Cond := kF_takePage :: lwg
abbrev cD_readPage : ByteArray := prog_2_method_5_code
def yD_readPage : MethodName := ⟨RD, "readPage", "(I[B)V"⟩
abbrev kD_readPage : Cond := .code yD_readPage cD_readPage 3 none
abbrev wD_readPage : List Cond := kD_readPage :: lwg
abbrev cL_remake : ByteArray := method_4_code
def yL_remake : MethodName := ⟨RL, "remake", "(LBufferDesk;I[J)I"⟩
abbrev hL_remake : List (Nat × Nat × Nat × Nat) := [(0, 9, 12, 13), (0, 9, 15, 15), (0, 9, 18, 19)]
abbrev kL_remake : Cond := .codeWith yL_remake cL_remake 4 (some .int) hL_remake
abbrev wL_remake : List Cond := kL_remake :: lwg
abbrev cB_remake : ByteArray := prog_1_method_3_code
def yB_remake : MethodName := ⟨RB, "remake", "(I)I"⟩
abbrev kB_remake : Cond := .code yB_remake cB_remake 3 (some .int)
abbrev wB_remake : List Cond := kB_remake :: lwg
abbrev cF_blank : ByteArray := prog_3_method_12_code
def yF_blank : MethodName := ⟨RF, "blank", "(I)V"⟩
abbrev kF_blank : Cond := .code yF_blank cF_blank 2 none
abbrev wF_blank : List Cond := kF_blank :: lwg
abbrev cJA_fill : ByteArray := prog_16_method_109_code
def yJA_fill : MethodName := ⟨"java/util/Arrays", "fill", "([BB)V"⟩
abbrev kJA_fill : Cond := .code yJA_fill cJA_fill 4 none
abbrev wJA_fill : List Cond := kJA_fill :: lwg
abbrev cL_clean : ByteArray := method_5_code
def yL_clean : MethodName := ⟨RL, "clean", "(LBufferDesk;I[J)I"⟩
abbrev hL_clean : List (Nat × Nat × Nat × Nat) := [(0, 9, 12, 13), (0, 9, 15, 19)]
abbrev kL_clean : Cond := .codeWith yL_clean cL_clean 4 (some .int) hL_clean
abbrev wL_clean : List Cond := kL_clean :: lwg
abbrev cB_clean : ByteArray := prog_1_method_7_code
def yB_clean : MethodName := ⟨RB, "clean", "(I)I"⟩
abbrev kB_clean : Cond := .code yB_clean cB_clean 5 (some .int)
abbrev wB_clean : List Cond := kB_clean :: lwg
abbrev cL_sweep : ByteArray := method_6_code
def yL_sweep : MethodName := ⟨RL, "sweep", "(LBufferDesk;[J)I"⟩
abbrev hL_sweep : List (Nat × Nat × Nat × Nat) := [(0, 8, 11, 19)]
abbrev kL_sweep : Cond := .codeWith yL_sweep cL_sweep 3 (some .int) hL_sweep
abbrev wL_sweep : List Cond := kL_sweep :: lwg
abbrev cB_sweep : ByteArray := prog_1_method_8_code
def yB_sweep : MethodName := ⟨RB, "sweep", "()I"⟩
abbrev kB_sweep : Cond := .code yB_sweep cB_sweep 3 (some .int)
abbrev wB_sweep : List Cond := kB_sweep :: lwg
abbrev cB_dirtyFrameOfLowestPage : ByteArray := prog_1_method_23_code
def yB_dirtyFrameOfLowestPage : MethodName := ⟨RB, "dirtyFrameOfLowestPage", "()I"⟩
abbrev kB_dirtyFrameOfLowestPage : Cond := .code yB_dirtyFrameOfLowestPage cB_dirtyFrameOfLowestPage 3 (some .int)
abbrev wB_dirtyFrameOfLowestPage : List Cond := kB_dirtyFrameOfLowestPage :: lwg
abbrev cL_charge : ByteArray := method_7_code
def yL_charge : MethodName := ⟨RL, "charge", "(LBufferDesk;I)I"⟩
abbrev hL_charge : List (Nat × Nat × Nat × Nat) := [(0, 5, 8, 13)]
abbrev kL_charge : Cond := .codeWith yL_charge cL_charge 3 (some .int) hL_charge
abbrev wL_charge : List Cond := kL_charge :: lwg
abbrev cB_charge : ByteArray := prog_1_method_9_code
def yB_charge : MethodName := ⟨RB, "charge", "(I)V"⟩
abbrev kB_charge : Cond := .code yB_charge cB_charge 2 none
abbrev wB_charge : List Cond := kB_charge :: lwg
abbrev cM_init : ByteArray := prog_6_method_1_code
def yM_init : MethodName := ⟨RM, "<init>", "()V"⟩
abbrev kM_init : Cond := .code yM_init cM_init 1 none
abbrev wM_init : List Cond := kM_init :: lwg
abbrev cM_empty : ByteArray := prog_6_method_4_code
def yM_empty : MethodName := ⟨RM, "empty", "()V"⟩
abbrev kM_empty : Cond := .code yM_empty cM_empty 2 none
abbrev wM_empty : List Cond := kM_empty :: lwg
abbrev cM_thrown : ByteArray := prog_6_method_2_code
def yM_thrown : MethodName := ⟨RM, "thrown", "()I"⟩
abbrev kM_thrown : Cond := .code yM_thrown cM_thrown 1 (some .int)
abbrev wM_thrown : List Cond := kM_thrown :: lwg
abbrev cM_get : ByteArray := prog_6_method_11_code
def yM_get : MethodName := ⟨RM, "get", "(II)I"⟩
abbrev kM_get : Cond := .code yM_get cM_get 3 (some .int)
abbrev wM_get : List Cond := kM_get :: lwg
abbrev cM_part : ByteArray := prog_6_method_10_code
def yM_part : MethodName := ⟨RM, "part", "(III)I"⟩
abbrev kM_part : Cond := .code yM_part cM_part 3 (some .int)
abbrev wM_part : List Cond := kM_part :: lwg
abbrev cM_framePlace : ByteArray := prog_6_method_9_code
def yM_framePlace : MethodName := ⟨RM, "framePlace", "(I)I"⟩
abbrev kM_framePlace : Cond := .code yM_framePlace cM_framePlace 2 (some .int)
abbrev wM_framePlace : List Cond := kM_framePlace :: lwg
abbrev cM_placeOf : ByteArray := prog_6_method_8_code
def yM_placeOf : MethodName := ⟨RM, "placeOf", "(III)I"⟩
abbrev kM_placeOf : Cond := .code yM_placeOf cM_placeOf 6 (some .int)
abbrev wM_placeOf : List Cond := kM_placeOf :: lwg
abbrev cM_valueOf : ByteArray := prog_6_method_7_code
def yM_valueOf : MethodName := ⟨RM, "valueOf", "(IIII)I"⟩
abbrev kM_valueOf : Cond := .code yM_valueOf cM_valueOf 7 (some .int)
abbrev wM_valueOf : List Cond := kM_valueOf :: lwg
abbrev cM_disk : ByteArray := prog_6_method_12_code
def yM_disk : MethodName := ⟨RM, "disk", "(II)I"⟩
abbrev kM_disk : Cond := .code yM_disk cM_disk 4 (some .int)
abbrev wM_disk : List Cond := kM_disk :: lwg
abbrev cM_isPage : ByteArray := prog_6_method_5_code
def yM_isPage : MethodName := ⟨RM, "isPage", "(I)Z"⟩
abbrev kM_isPage : Cond := .code yM_isPage cM_isPage 1 (some .boolean)
abbrev wM_isPage : List Cond := kM_isPage :: lwg
abbrev cM_torn : ByteArray := prog_6_method_13_code
def yM_torn : MethodName := ⟨RM, "torn", "(I)Z"⟩
abbrev kM_torn : Cond := .code yM_torn cM_torn 2 (some .boolean)
abbrev wM_torn : List Cond := kM_torn :: lwg
abbrev cM_isTorn : ByteArray := prog_6_method_6_code
def yM_isTorn : MethodName := ⟨RM, "isTorn", "(I)Z"⟩
abbrev kM_isTorn : Cond := .code yM_isTorn cM_isTorn 2 (some .boolean)
abbrev wM_isTorn : List Cond := kM_isTorn :: lwg
abbrev cM_pin : ByteArray := prog_6_method_20_code
def yM_pin : MethodName := ⟨RM, "pin", "(I)I"⟩
abbrev kM_pin : Cond := .code yM_pin cM_pin 3 (some .int)
abbrev wM_pin : List Cond := kM_pin :: lwg
abbrev cM_fails : ByteArray := prog_6_method_3_code
def yM_fails : MethodName := ⟨RM, "fails", "(I)I"⟩
abbrev kM_fails : Cond := .code yM_fails cM_fails 2 (some .int)
abbrev wM_fails : List Cond := kM_fails :: lwg
abbrev cM_frameOf : ByteArray := prog_6_method_16_code
def yM_frameOf : MethodName := ⟨RM, "frameOf", "(I)I"⟩
abbrev kM_frameOf : Cond := .code yM_frameOf cM_frameOf 4 (some .int)
abbrev wM_frameOf : List Cond := kM_frameOf :: lwg
abbrev cM_allPinned : ByteArray := prog_6_method_17_code
def yM_allPinned : MethodName := ⟨RM, "allPinned", "()Z"⟩
abbrev kM_allPinned : Cond := .code yM_allPinned cM_allPinned 3 (some .boolean)
abbrev wM_allPinned : List Cond := kM_allPinned :: lwg
abbrev cM_found : ByteArray := prog_6_method_18_code
def yM_found : MethodName := ⟨RM, "found", "()I"⟩
abbrev kM_found : Cond := .code yM_found cM_found 3 (some .int)
abbrev wM_found : List Cond := kM_found :: lwg
abbrev cM_write : ByteArray := prog_6_method_15_code
def yM_write : MethodName := ⟨RM, "write", "(I)Z"⟩
abbrev kM_write : Cond := .code yM_write cM_write 5 (some .boolean)
abbrev wM_write : List Cond := kM_write :: lwg
abbrev cM_cut : ByteArray := prog_6_method_14_code
def yM_cut : MethodName := ⟨RM, "cut", "()V"⟩
abbrev kM_cut : Cond := .code yM_cut cM_cut 3 none
abbrev wM_cut : List Cond := kM_cut :: lwg
abbrev cM_fill : ByteArray := prog_6_method_19_code
def yM_fill : MethodName := ⟨RM, "fill", "(III)V"⟩
abbrev kM_fill : Cond := .code yM_fill cM_fill 4 none
abbrev wM_fill : List Cond := kM_fill :: lwg
abbrev cM_remake : ByteArray := prog_6_method_21_code
def yM_remake : MethodName := ⟨RM, "remake", "(I)I"⟩
abbrev kM_remake : Cond := .code yM_remake cM_remake 3 (some .int)
abbrev wM_remake : List Cond := kM_remake :: lwg
abbrev cM_unpin : ByteArray := prog_6_method_23_code
def yM_unpin : MethodName := ⟨RM, "unpin", "(I)Z"⟩
abbrev kM_unpin : Cond := .code yM_unpin cM_unpin 2 (some .boolean)
abbrev wM_unpin : List Cond := kM_unpin :: lwg
abbrev cM_isPinned : ByteArray := prog_6_method_22_code
def yM_isPinned : MethodName := ⟨RM, "isPinned", "(I)Z"⟩
abbrev kM_isPinned : Cond := .code yM_isPinned cM_isPinned 2 (some .boolean)
abbrev wM_isPinned : List Cond := kM_isPinned :: lwg
abbrev cM_set : ByteArray := prog_6_method_24_code
def yM_set : MethodName := ⟨RM, "set", "(IIII)Z"⟩
abbrev kM_set : Cond := .code yM_set cM_set 5 (some .boolean)
abbrev wM_set : List Cond := kM_set :: lwg
abbrev cM_clean : ByteArray := prog_6_method_25_code
def yM_clean : MethodName := ⟨RM, "clean", "(I)I"⟩
abbrev kM_clean : Cond := .code yM_clean cM_clean 6 (some .int)
abbrev wM_clean : List Cond := kM_clean :: lwg
abbrev cM_sweep : ByteArray := prog_6_method_26_code
def yM_sweep : MethodName := ⟨RM, "sweep", "()I"⟩
abbrev kM_sweep : Cond := .code yM_sweep cM_sweep 4 (some .int)
abbrev wM_sweep : List Cond := kM_sweep :: lwg
abbrev cM_charge : ByteArray := prog_6_method_27_code
def yM_charge : MethodName := ⟨RM, "charge", "(I)V"⟩
abbrev kM_charge : Cond := .code yM_charge cM_charge 2 none
abbrev wM_charge : List Cond := kM_charge :: lwg
abbrev cM_flushed : ByteArray := prog_6_method_28_code
def yM_flushed : MethodName := ⟨RM, "flushed", "(I)Z"⟩
abbrev kM_flushed : Cond := .code yM_flushed cM_flushed 3 (some .boolean)
abbrev wM_flushed : List Cond := kM_flushed :: lwg
abbrev cM_look : ByteArray := prog_6_method_29_code
def yM_look : MethodName := ⟨RM, "look", "(II)I"⟩
abbrev kM_look : Cond := .code yM_look cM_look 3 (some .int)
abbrev wM_look : List Cond := kM_look :: lwg
abbrev cM_count : ByteArray := prog_6_method_30_code
def yM_count : MethodName := ⟨RM, "count", "(I)I"⟩
abbrev kM_count : Cond := .code yM_count cM_count 4 (some .int)
abbrev wM_count : List Cond := kM_count :: lwg
theorem wi_0 : Cond.selects RB yB_framesWithPages yB_framesWithPages ∈ lwg := lwg_mem 0 (by decide +kernel) (by decide +kernel)
theorem wi_1 : Cond.selects "java/lang/Throwable" ⟨"java/lang/Throwable", "fillInStackTrace", "(I)Ljava/lang/Throwable;"⟩ ⟨"java/lang/Throwable", "fillInStackTrace", "(I)Ljava/lang/Throwable;"⟩ ∈ lwg := lwg_mem 1 (by decide +kernel) (by decide +kernel)
theorem wi_2 : Cond.selects RB yB_frameWith yB_frameWith ∈ lwg := lwg_mem 2 (by decide +kernel) (by decide +kernel)
theorem wi_3 : Cond.selects RB yB_allHavePins yB_allHavePins ∈ lwg := lwg_mem 3 (by decide +kernel) (by decide +kernel)
theorem wi_4 : Cond.selects RB yB_findFrame yB_findFrame ∈ lwg := lwg_mem 4 (by decide +kernel) (by decide +kernel)
theorem wi_5 : Cond.selects RB yB_frameByHand yB_frameByHand ∈ lwg := lwg_mem 5 (by decide +kernel) (by decide +kernel)
theorem wi_6 : Cond.selects RB yB_writePageOf yB_writePageOf ∈ lwg := lwg_mem 6 (by decide +kernel) (by decide +kernel)
theorem wi_7 : Cond.selects RF yF_putStamps yF_putStamps ∈ lwg := lwg_mem 7 (by decide +kernel) (by decide +kernel)
theorem wi_8 : Cond.selects RB yB_losePower yB_losePower ∈ lwg := lwg_mem 8 (by decide +kernel) (by decide +kernel)
theorem wi_9 : Cond.selects RB yB_dirtyFrameOfLowestPage yB_dirtyFrameOfLowestPage ∈ lwg := lwg_mem 9 (by decide +kernel) (by decide +kernel)
theorem wi_10 : Cond.selects RM yM_empty yM_empty ∈ lwg := lwg_mem 10 (by decide +kernel) (by decide +kernel)
theorem wi_11 : Cond.selects RM yM_framePlace yM_framePlace ∈ lwg := lwg_mem 11 (by decide +kernel) (by decide +kernel)
theorem wi_12 : Cond.selects RM yM_placeOf yM_placeOf ∈ lwg := lwg_mem 12 (by decide +kernel) (by decide +kernel)
theorem wi_13 : Cond.selects RM yM_valueOf yM_valueOf ∈ lwg := lwg_mem 13 (by decide +kernel) (by decide +kernel)
theorem wi_14 : Cond.selects RM yM_isTorn yM_isTorn ∈ lwg := lwg_mem 14 (by decide +kernel) (by decide +kernel)
theorem wi_15 : Cond.selects RM yM_fails yM_fails ∈ lwg := lwg_mem 15 (by decide +kernel) (by decide +kernel)
theorem wi_16 : Cond.selects RM yM_frameOf yM_frameOf ∈ lwg := lwg_mem 16 (by decide +kernel) (by decide +kernel)
theorem wi_17 : Cond.selects RM yM_allPinned yM_allPinned ∈ lwg := lwg_mem 17 (by decide +kernel) (by decide +kernel)
theorem wi_18 : Cond.selects RM yM_found yM_found ∈ lwg := lwg_mem 18 (by decide +kernel) (by decide +kernel)
theorem wi_19 : Cond.selects RM yM_write yM_write ∈ lwg := lwg_mem 19 (by decide +kernel) (by decide +kernel)
theorem wi_20 : Cond.selects RM yM_cut yM_cut ∈ lwg := lwg_mem 20 (by decide +kernel) (by decide +kernel)
theorem wi_21 : Cond.selects RM yM_fill yM_fill ∈ lwg := lwg_mem 21 (by decide +kernel) (by decide +kernel)
theorem wi_22 : Cond.selects RM yM_isPinned yM_isPinned ∈ lwg := lwg_mem 22 (by decide +kernel) (by decide +kernel)
theorem wi_23 : Cond.initialized RL ∈ lwg := lwg_mem 23 (by decide +kernel) (by decide +kernel)
theorem wi_24 : Cond.initialized RB ∈ lwg := lwg_mem 24 (by decide +kernel) (by decide +kernel)
theorem wi_25 : Cond.initialized RD ∈ lwg := lwg_mem 25 (by decide +kernel) (by decide +kernel)
theorem wi_26 : Cond.initialized RG ∈ lwg := lwg_mem 26 (by decide +kernel) (by decide +kernel)
theorem wi_27 : Cond.initialized RF ∈ lwg := lwg_mem 27 (by decide +kernel) (by decide +kernel)
theorem wi_28 : Cond.initialized RM ∈ lwg := lwg_mem 28 (by decide +kernel) (by decide +kernel)
theorem wi_29 : Cond.initialized "java/lang/Throwable" ∈ lwg := lwg_mem 29 (by decide +kernel) (by decide +kernel)
theorem wi_30 : Cond.initialized "java/lang/Exception" ∈ lwg := lwg_mem 30 (by decide +kernel) (by decide +kernel)
theorem wi_31 : Cond.initialized "java/lang/RuntimeException" ∈ lwg := lwg_mem 31 (by decide +kernel) (by decide +kernel)
theorem wi_32 : Cond.initialized "java/lang/IllegalArgumentException" ∈ lwg := lwg_mem 32 (by decide +kernel) (by decide +kernel)
theorem wi_33 : Cond.initialized "java/lang/Math" ∈ lwg := lwg_mem 33 (by decide +kernel) (by decide +kernel)
theorem wi_34 : Cond.initialized "java/lang/IllegalStateException" ∈ lwg := lwg_mem 34 (by decide +kernel) (by decide +kernel)
theorem wi_35 : Cond.initialized "java/util/NoSuchElementException" ∈ lwg := lwg_mem 35 (by decide +kernel) (by decide +kernel)
theorem wi_36 : Cond.initialized "java/lang/System" ∈ lwg := lwg_mem 36 (by decide +kernel) (by decide +kernel)
theorem wi_37 : Cond.initialized "java/lang/UnsupportedOperationException" ∈ lwg := lwg_mem 37 (by decide +kernel) (by decide +kernel)
theorem wi_38 : Cond.initialized "java/util/Arrays" ∈ lwg := lwg_mem 38 (by decide +kernel) (by decide +kernel)
theorem wi_39 : Cond.classLink RL 8 RB ∈ lwg := lwg_mem 39 (by decide +kernel) (by decide +kernel)
theorem wi_40 : Cond.instantiable RB 4 ∈ lwg := lwg_mem 40 (by decide +kernel) (by decide +kernel)
theorem wi_41 : Cond.methodLink RL 35 yB_init ∈ lwg := lwg_mem 41 (by decide +kernel) (by decide +kernel)
theorem wi_42 : Cond.instanceMethod yB_init ∈ lwg := lwg_mem 42 (by decide +kernel) (by decide +kernel)
theorem wi_43 : kB_init ∈ lwg := lwg_mem 43 (by decide +kernel) (by decide +kernel)
theorem wi_44 : Cond.methodLink RB 3 objectInit ∈ lwg := lwg_mem 44 (by decide +kernel) (by decide +kernel)
theorem wi_45 : Cond.instanceMethod objectInit ∈ lwg := lwg_mem 45 (by decide +kernel) (by decide +kernel)
theorem wi_46 : Cond.code objectInit ⟨#[0xb1]⟩ 1 none ∈ lwg := lwg_mem 46 (by decide +kernel) (by decide +kernel)
theorem wi_47 : Cond.classLink RB 9 RD ∈ lwg := lwg_mem 47 (by decide +kernel) (by decide +kernel)
theorem wi_48 : Cond.instantiable RD 4 ∈ lwg := lwg_mem 48 (by decide +kernel) (by decide +kernel)
theorem wi_50 : Cond.instanceMethod yD_init ∈ lwg := lwg_mem 50 (by decide +kernel) (by decide +kernel)
theorem wi_51 : kD_init ∈ lwg := lwg_mem 51 (by decide +kernel) (by decide +kernel)
theorem wi_52 : Cond.methodLink RD 3 objectInit ∈ lwg := lwg_mem 52 (by decide +kernel) (by decide +kernel)
theorem wi_53 : Cond.constant RD 9 98304 ∈ lwg := lwg_mem 53 (by decide +kernel) (by decide +kernel)
theorem wi_54 : Cond.fieldLink RD 10 "BufferDesk$Drive" "bytes" "[B" ∈ lwg := lwg_mem 54 (by decide +kernel) (by decide +kernel)
theorem wi_55 : Cond.fieldLink RD 16 "BufferDesk$Drive" "sectorsLeft" "I" ∈ lwg := lwg_mem 55 (by decide +kernel) (by decide +kernel)
theorem wi_57 : Cond.fieldLink RD 37 "BufferDesk$Drive" "sectorsWritten" "I" ∈ lwg := lwg_mem 57 (by decide +kernel) (by decide +kernel)
theorem wi_59 : Cond.fieldLink RD 34 "BufferDesk$Drive" "pagesRead" "I" ∈ lwg := lwg_mem 59 (by decide +kernel) (by decide +kernel)
theorem wi_70 : Cond.arrayClass .byte ∈ lwg := lwg_mem 70 (by decide +kernel) (by decide +kernel)
theorem wi_71 : Cond.classLink RB 16 RG ∈ lwg := lwg_mem 71 (by decide +kernel) (by decide +kernel)
theorem wi_72 : Cond.instantiable RG 2 ∈ lwg := lwg_mem 72 (by decide +kernel) (by decide +kernel)
theorem wi_74 : Cond.instanceMethod yG_init ∈ lwg := lwg_mem 74 (by decide +kernel) (by decide +kernel)
theorem wi_75 : kG_init ∈ lwg := lwg_mem 75 (by decide +kernel) (by decide +kernel)
theorem wi_76 : Cond.methodLink RG 1 objectInit ∈ lwg := lwg_mem 76 (by decide +kernel) (by decide +kernel)
theorem wi_77 : Cond.fieldLink RG 7 "BufferDesk$Log" "end" "I" ∈ lwg := lwg_mem 77 (by decide +kernel) (by decide +kernel)
theorem wi_79 : Cond.fieldLink RG 17 "BufferDesk$Log" "flushes" "I" ∈ lwg := lwg_mem 79 (by decide +kernel) (by decide +kernel)
theorem wi_86 : Cond.classLink RB 23 RF ∈ lwg := lwg_mem 86 (by decide +kernel) (by decide +kernel)
theorem wi_88 : Cond.instantiable RF 5 ∈ lwg := lwg_mem 88 (by decide +kernel) (by decide +kernel)
theorem wi_90 : Cond.instanceMethod yF_init ∈ lwg := lwg_mem 90 (by decide +kernel) (by decide +kernel)
theorem wi_91 : kF_init ∈ lwg := lwg_mem 91 (by decide +kernel) (by decide +kernel)
theorem wi_92 : Cond.methodLink RF 3 objectInit ∈ lwg := lwg_mem 92 (by decide +kernel) (by decide +kernel)
theorem wi_93 : Cond.fieldLink RF 9 "BufferDesk$Frame" "bytes" "[B" ∈ lwg := lwg_mem 93 (by decide +kernel) (by decide +kernel)
theorem wi_95 : Cond.fieldLink RF 15 "BufferDesk$Frame" "page" "I" ∈ lwg := lwg_mem 95 (by decide +kernel) (by decide +kernel)
theorem wi_97 : Cond.fieldLink RF 19 "BufferDesk$Frame" "pins" "I" ∈ lwg := lwg_mem 97 (by decide +kernel) (by decide +kernel)
theorem wi_99 : Cond.fieldLink RF 22 "BufferDesk$Frame" "use" "I" ∈ lwg := lwg_mem 99 (by decide +kernel) (by decide +kernel)
theorem wi_102 : Cond.fieldLink RF 31 "BufferDesk$Frame" "dirty" "Z" ∈ lwg := lwg_mem 102 (by decide +kernel) (by decide +kernel)
theorem wi_114 : Cond.fieldLink RB 12 "BufferDesk" "drive" "LBufferDesk$Drive;" ∈ lwg := lwg_mem 114 (by decide +kernel) (by decide +kernel)
theorem wi_115 : Cond.fieldLink RB 19 "BufferDesk" "log" "LBufferDesk$Log;" ∈ lwg := lwg_mem 115 (by decide +kernel) (by decide +kernel)
theorem wi_116 : Cond.fieldLink RB 25 "BufferDesk" "frames" "[LBufferDesk$Frame;" ∈ lwg := lwg_mem 116 (by decide +kernel) (by decide +kernel)
theorem wi_117 : Cond.fieldLink RB 30 "BufferDesk" "hand" "I" ∈ lwg := lwg_mem 117 (by decide +kernel) (by decide +kernel)
theorem wi_127 : Cond.methodLink RL 51 yB_unpin ∈ lwg := lwg_mem 127 (by decide +kernel) (by decide +kernel)
theorem wi_128 : Cond.instanceMethod yB_unpin ∈ lwg := lwg_mem 128 (by decide +kernel) (by decide +kernel)
theorem wi_129 : Cond.selects RB yB_unpin yB_unpin ∈ lwg := lwg_mem 129 (by decide +kernel) (by decide +kernel)
theorem wi_130 : kB_unpin ∈ lwg := lwg_mem 130 (by decide +kernel) (by decide +kernel)
theorem wi_131 : Cond.methodLink RB 93 yB_isFrame ∈ lwg := lwg_mem 131 (by decide +kernel) (by decide +kernel)
theorem wi_132 : Cond.static yB_isFrame ∈ lwg := lwg_mem 132 (by decide +kernel) (by decide +kernel)
theorem wi_133 : kB_isFrame ∈ lwg := lwg_mem 133 (by decide +kernel) (by decide +kernel)
theorem wi_134 : Cond.methodLink RB 96 yF_hasPins ∈ lwg := lwg_mem 134 (by decide +kernel) (by decide +kernel)
theorem wi_135 : Cond.instanceMethod yF_hasPins ∈ lwg := lwg_mem 135 (by decide +kernel) (by decide +kernel)
theorem wi_136 : Cond.selects RF yF_hasPins yF_hasPins ∈ lwg := lwg_mem 136 (by decide +kernel) (by decide +kernel)
theorem wi_137 : kF_hasPins ∈ lwg := lwg_mem 137 (by decide +kernel) (by decide +kernel)
theorem wi_138 : Cond.methodLink RB 99 yF_dropPin ∈ lwg := lwg_mem 138 (by decide +kernel) (by decide +kernel)
theorem wi_139 : Cond.instanceMethod yF_dropPin ∈ lwg := lwg_mem 139 (by decide +kernel) (by decide +kernel)
theorem wi_140 : Cond.selects RF yF_dropPin yF_dropPin ∈ lwg := lwg_mem 140 (by decide +kernel) (by decide +kernel)
theorem wi_141 : kF_dropPin ∈ lwg := lwg_mem 141 (by decide +kernel) (by decide +kernel)
theorem wi_142 : Cond.methodLink RL 56 yB_get ∈ lwg := lwg_mem 142 (by decide +kernel) (by decide +kernel)
theorem wi_143 : Cond.instanceMethod yB_get ∈ lwg := lwg_mem 143 (by decide +kernel) (by decide +kernel)
theorem wi_144 : Cond.selects RB yB_get yB_get ∈ lwg := lwg_mem 144 (by decide +kernel) (by decide +kernel)
theorem wi_145 : kB_get ∈ lwg := lwg_mem 145 (by decide +kernel) (by decide +kernel)
theorem wi_146 : Cond.methodLink RB 102 yB_isByte ∈ lwg := lwg_mem 146 (by decide +kernel) (by decide +kernel)
theorem wi_147 : Cond.static yB_isByte ∈ lwg := lwg_mem 147 (by decide +kernel) (by decide +kernel)
theorem wi_148 : kB_isByte ∈ lwg := lwg_mem 148 (by decide +kernel) (by decide +kernel)
theorem wi_149 : Cond.methodLink RB 105 yF_isEmpty ∈ lwg := lwg_mem 149 (by decide +kernel) (by decide +kernel)
theorem wi_150 : Cond.instanceMethod yF_isEmpty ∈ lwg := lwg_mem 150 (by decide +kernel) (by decide +kernel)
theorem wi_151 : Cond.selects RF yF_isEmpty yF_isEmpty ∈ lwg := lwg_mem 151 (by decide +kernel) (by decide +kernel)
theorem wi_152 : kF_isEmpty ∈ lwg := lwg_mem 152 (by decide +kernel) (by decide +kernel)
theorem wi_153 : Cond.methodLink RL 61 yB_set ∈ lwg := lwg_mem 153 (by decide +kernel) (by decide +kernel)
theorem wi_154 : Cond.instanceMethod yB_set ∈ lwg := lwg_mem 154 (by decide +kernel) (by decide +kernel)
theorem wi_155 : Cond.selects RB yB_set yB_set ∈ lwg := lwg_mem 155 (by decide +kernel) (by decide +kernel)
theorem wi_156 : kB_set ∈ lwg := lwg_mem 156 (by decide +kernel) (by decide +kernel)
theorem wi_157 : Cond.methodLink RB 108 yF_place ∈ lwg := lwg_mem 157 (by decide +kernel) (by decide +kernel)
theorem wi_158 : Cond.instanceMethod yF_place ∈ lwg := lwg_mem 158 (by decide +kernel) (by decide +kernel)
theorem wi_159 : Cond.selects RF yF_place yF_place ∈ lwg := lwg_mem 159 (by decide +kernel) (by decide +kernel)
theorem wi_160 : kF_place ∈ lwg := lwg_mem 160 (by decide +kernel) (by decide +kernel)
theorem wi_162 : Cond.static yB_twoBytes ∈ lwg := lwg_mem 162 (by decide +kernel) (by decide +kernel)
theorem wi_163 : kB_twoBytes ∈ lwg := lwg_mem 163 (by decide +kernel) (by decide +kernel)
theorem wi_164 : Cond.methodLink RB 111 yF_change ∈ lwg := lwg_mem 164 (by decide +kernel) (by decide +kernel)
theorem wi_165 : Cond.instanceMethod yF_change ∈ lwg := lwg_mem 165 (by decide +kernel) (by decide +kernel)
theorem wi_166 : Cond.selects RF yF_change yF_change ∈ lwg := lwg_mem 166 (by decide +kernel) (by decide +kernel)
theorem wi_167 : kF_change ∈ lwg := lwg_mem 167 (by decide +kernel) (by decide +kernel)
theorem wi_168 : Cond.methodLink RL 77 yB_flushed ∈ lwg := lwg_mem 168 (by decide +kernel) (by decide +kernel)
theorem wi_169 : Cond.instanceMethod yB_flushed ∈ lwg := lwg_mem 169 (by decide +kernel) (by decide +kernel)
theorem wi_170 : Cond.selects RB yB_flushed yB_flushed ∈ lwg := lwg_mem 170 (by decide +kernel) (by decide +kernel)
theorem wi_171 : kB_flushed ∈ lwg := lwg_mem 171 (by decide +kernel) (by decide +kernel)
theorem wi_172 : Cond.methodLink RB 136 yG_advance ∈ lwg := lwg_mem 172 (by decide +kernel) (by decide +kernel)
theorem wi_173 : Cond.instanceMethod yG_advance ∈ lwg := lwg_mem 173 (by decide +kernel) (by decide +kernel)
theorem wi_174 : Cond.selects RG yG_advance yG_advance ∈ lwg := lwg_mem 174 (by decide +kernel) (by decide +kernel)
theorem wi_175 : kG_advance ∈ lwg := lwg_mem 175 (by decide +kernel) (by decide +kernel)
theorem wi_176 : Cond.methodLink RL 81 yB_look ∈ lwg := lwg_mem 176 (by decide +kernel) (by decide +kernel)
theorem wi_177 : Cond.instanceMethod yB_look ∈ lwg := lwg_mem 177 (by decide +kernel) (by decide +kernel)
theorem wi_178 : Cond.selects RB yB_look yB_look ∈ lwg := lwg_mem 178 (by decide +kernel) (by decide +kernel)
theorem wi_179 : kB_look ∈ lwg := lwg_mem 179 (by decide +kernel) (by decide +kernel)
theorem wi_180 : Cond.methodLink RL 85 yB_disk ∈ lwg := lwg_mem 180 (by decide +kernel) (by decide +kernel)
theorem wi_181 : Cond.instanceMethod yB_disk ∈ lwg := lwg_mem 181 (by decide +kernel) (by decide +kernel)
theorem wi_182 : Cond.selects RB yB_disk yB_disk ∈ lwg := lwg_mem 182 (by decide +kernel) (by decide +kernel)
theorem wi_183 : kB_disk ∈ lwg := lwg_mem 183 (by decide +kernel) (by decide +kernel)
theorem wi_184 : Cond.methodLink RB 34 yB_isPage ∈ lwg := lwg_mem 184 (by decide +kernel) (by decide +kernel)
theorem wi_185 : Cond.static yB_isPage ∈ lwg := lwg_mem 185 (by decide +kernel) (by decide +kernel)
theorem wi_186 : kB_isPage ∈ lwg := lwg_mem 186 (by decide +kernel) (by decide +kernel)
theorem wi_187 : Cond.methodLink RB 148 yD_byteAt ∈ lwg := lwg_mem 187 (by decide +kernel) (by decide +kernel)
theorem wi_188 : Cond.instanceMethod yD_byteAt ∈ lwg := lwg_mem 188 (by decide +kernel) (by decide +kernel)
theorem wi_189 : Cond.selects RD yD_byteAt yD_byteAt ∈ lwg := lwg_mem 189 (by decide +kernel) (by decide +kernel)
theorem wi_190 : kD_byteAt ∈ lwg := lwg_mem 190 (by decide +kernel) (by decide +kernel)
theorem wi_191 : Cond.methodLink RL 89 yB_torn ∈ lwg := lwg_mem 191 (by decide +kernel) (by decide +kernel)
theorem wi_192 : Cond.instanceMethod yB_torn ∈ lwg := lwg_mem 192 (by decide +kernel) (by decide +kernel)
theorem wi_193 : Cond.selects RB yB_torn yB_torn ∈ lwg := lwg_mem 193 (by decide +kernel) (by decide +kernel)
theorem wi_194 : kB_torn ∈ lwg := lwg_mem 194 (by decide +kernel) (by decide +kernel)
theorem wi_195 : Cond.methodLink RB 61 yD_isTorn ∈ lwg := lwg_mem 195 (by decide +kernel) (by decide +kernel)
theorem wi_196 : Cond.instanceMethod yD_isTorn ∈ lwg := lwg_mem 196 (by decide +kernel) (by decide +kernel)
theorem wi_197 : Cond.selects RD yD_isTorn yD_isTorn ∈ lwg := lwg_mem 197 (by decide +kernel) (by decide +kernel)
theorem wi_198 : kD_isTorn ∈ lwg := lwg_mem 198 (by decide +kernel) (by decide +kernel)
theorem wi_199 : Cond.methodLink RD 24 yD_firstStamp ∈ lwg := lwg_mem 199 (by decide +kernel) (by decide +kernel)
theorem wi_200 : Cond.instanceMethod yD_firstStamp ∈ lwg := lwg_mem 200 (by decide +kernel) (by decide +kernel)
theorem wi_201 : Cond.selects RD yD_firstStamp yD_firstStamp ∈ lwg := lwg_mem 201 (by decide +kernel) (by decide +kernel)
theorem wi_202 : kD_firstStamp ∈ lwg := lwg_mem 202 (by decide +kernel) (by decide +kernel)
theorem wi_204 : Cond.methodLink RL 93 yB_count ∈ lwg := lwg_mem 204 (by decide +kernel) (by decide +kernel)
theorem wi_205 : Cond.instanceMethod yB_count ∈ lwg := lwg_mem 205 (by decide +kernel) (by decide +kernel)
theorem wi_206 : Cond.selects RB yB_count yB_count ∈ lwg := lwg_mem 206 (by decide +kernel) (by decide +kernel)
theorem wi_207 : kB_count ∈ lwg := lwg_mem 207 (by decide +kernel) (by decide +kernel)
theorem wi_208 : Cond.methodLink RB 164 yB_framesWithPages ∈ lwg := lwg_mem 208 (by decide +kernel) (by decide +kernel)
theorem wi_210 : Cond.instanceMethod yB_framesWithPages ∈ lwg := lwg_mem 210 (by decide +kernel) (by decide +kernel)
theorem wi_211 : kB_framesWithPages ∈ lwg := lwg_mem 211 (by decide +kernel) (by decide +kernel)
theorem wi_212 : Cond.methodLink RL 39 yL_pin ∈ lwg := lwg_mem 212 (by decide +kernel) (by decide +kernel)
theorem wi_213 : Cond.static yL_pin ∈ lwg := lwg_mem 213 (by decide +kernel) (by decide +kernel)
theorem wi_214 : kL_pin ∈ lwg := lwg_mem 214 (by decide +kernel) (by decide +kernel)
theorem wi_215 : Cond.classLink RL 13 "java/lang/IllegalArgumentException" ∈ lwg := lwg_mem 215 (by decide +kernel) (by decide +kernel)
theorem wi_216 : Cond.classLink RL 15 "java/lang/IllegalStateException" ∈ lwg := lwg_mem 216 (by decide +kernel) (by decide +kernel)
theorem wi_217 : Cond.classLink RL 17 "java/util/NoSuchElementException" ∈ lwg := lwg_mem 217 (by decide +kernel) (by decide +kernel)
theorem wi_218 : Cond.classLink RL 19 "java/lang/UnsupportedOperationException" ∈ lwg := lwg_mem 218 (by decide +kernel) (by decide +kernel)
theorem wi_219 : Cond.methodLink RL 7 yB_pin ∈ lwg := lwg_mem 219 (by decide +kernel) (by decide +kernel)
theorem wi_220 : Cond.instanceMethod yB_pin ∈ lwg := lwg_mem 220 (by decide +kernel) (by decide +kernel)
theorem wi_221 : Cond.selects RB yB_pin yB_pin ∈ lwg := lwg_mem 221 (by decide +kernel) (by decide +kernel)
theorem wi_222 : kB_pin ∈ lwg := lwg_mem 222 (by decide +kernel) (by decide +kernel)
theorem wi_223 : Cond.classLink RB 38 "java/lang/IllegalArgumentException" ∈ lwg := lwg_mem 223 (by decide +kernel) (by decide +kernel)
theorem wi_224 : Cond.instantiable "java/lang/IllegalArgumentException" 6 ∈ lwg := lwg_mem 224 (by decide +kernel) (by decide +kernel)
theorem wi_232 : Cond.selects "java/lang/IllegalArgumentException" ⟨"java/lang/Throwable", "fillInStackTrace", "(I)Ljava/lang/Throwable;"⟩ ⟨"java/lang/Throwable", "fillInStackTrace", "(I)Ljava/lang/Throwable;"⟩ ∈ lwg := lwg_mem 232 (by decide +kernel) (by decide +kernel)
theorem wi_233 : Cond.selects "java/lang/IllegalArgumentException" ⟨"java/lang/Throwable", "fillInStackTrace", "()Ljava/lang/Throwable;"⟩ ⟨"java/lang/Throwable", "fillInStackTrace", "()Ljava/lang/Throwable;"⟩ ∈ lwg := lwg_mem 233 (by decide +kernel) (by decide +kernel)
theorem wi_244 : Cond.fieldLink "java/lang/Throwable" 198 "java/lang/Throwable" "backtrace" "Ljava/lang/Object;" ∈ lwg := lwg_mem 244 (by decide +kernel) (by decide +kernel)
theorem wi_246 : Cond.instanceMethod ⟨"java/lang/Throwable", "<init>", "()V"⟩ ∈ lwg := lwg_mem 246 (by decide +kernel) (by decide +kernel)
theorem wi_248 : Cond.methodLink "java/lang/Throwable" 1 objectInit ∈ lwg := lwg_mem 248 (by decide +kernel) (by decide +kernel)
theorem wi_249 : Cond.fieldLink "java/lang/Throwable" 13 "java/lang/Throwable" "UNASSIGNED_STACK" "[Ljava/lang/StackTraceElement;" ∈ lwg := lwg_mem 249 (by decide +kernel) (by decide +kernel)
theorem wi_251 : Cond.fieldLink "java/lang/Throwable" 20 "java/lang/Throwable" "SUPPRESSED_SENTINEL" "Ljava/util/List;" ∈ lwg := lwg_mem 251 (by decide +kernel) (by decide +kernel)
theorem wi_253 : Cond.methodLink "java/lang/Throwable" 27 ⟨"java/lang/Throwable", "fillInStackTrace", "()Ljava/lang/Throwable;"⟩ ∈ lwg := lwg_mem 253 (by decide +kernel) (by decide +kernel)
theorem wi_254 : Cond.instanceMethod ⟨"java/lang/Throwable", "fillInStackTrace", "()Ljava/lang/Throwable;"⟩ ∈ lwg := lwg_mem 254 (by decide +kernel) (by decide +kernel)
theorem wi_256 : Cond.selects "java/lang/IllegalStateException" ⟨"java/lang/Throwable", "fillInStackTrace", "()Ljava/lang/Throwable;"⟩ ⟨"java/lang/Throwable", "fillInStackTrace", "()Ljava/lang/Throwable;"⟩ ∈ lwg := lwg_mem 256 (by decide +kernel) (by decide +kernel)
theorem wi_257 : Cond.selects "java/lang/UnsupportedOperationException" ⟨"java/lang/Throwable", "fillInStackTrace", "()Ljava/lang/Throwable;"⟩ ⟨"java/lang/Throwable", "fillInStackTrace", "()Ljava/lang/Throwable;"⟩ ∈ lwg := lwg_mem 257 (by decide +kernel) (by decide +kernel)
theorem wi_258 : Cond.selects "java/util/NoSuchElementException" ⟨"java/lang/Throwable", "fillInStackTrace", "()Ljava/lang/Throwable;"⟩ ⟨"java/lang/Throwable", "fillInStackTrace", "()Ljava/lang/Throwable;"⟩ ∈ lwg := lwg_mem 258 (by decide +kernel) (by decide +kernel)
theorem wi_260 : Cond.methodLink "java/lang/Throwable" 202 ⟨"java/lang/Throwable", "fillInStackTrace", "(I)Ljava/lang/Throwable;"⟩ ∈ lwg := lwg_mem 260 (by decide +kernel) (by decide +kernel)
theorem wi_262 : Cond.instanceMethod ⟨"java/lang/Throwable", "fillInStackTrace", "(I)Ljava/lang/Throwable;"⟩ ∈ lwg := lwg_mem 262 (by decide +kernel) (by decide +kernel)
theorem wi_263 : Cond.instantiable "java/lang/Throwable" 6 ∈ lwg := lwg_mem 263 (by decide +kernel) (by decide +kernel)
theorem wi_264 : Cond.native ⟨"java/lang/Throwable", "fillInStackTrace", "(I)Ljava/lang/Throwable;"⟩ ∈ lwg := lwg_mem 264 (by decide +kernel) (by decide +kernel)
theorem wi_266 : Cond.methodLink RB 42 ⟨"java/lang/IllegalArgumentException", "<init>", "(Ljava/lang/String;)V"⟩ ∈ lwg := lwg_mem 266 (by decide +kernel) (by decide +kernel)
theorem wi_267 : Cond.instanceMethod ⟨"java/lang/IllegalArgumentException", "<init>", "(Ljava/lang/String;)V"⟩ ∈ lwg := lwg_mem 267 (by decide +kernel) (by decide +kernel)
theorem wi_269 : Cond.methodLink "java/lang/IllegalArgumentException" 7 ⟨"java/lang/RuntimeException", "<init>", "(Ljava/lang/String;)V"⟩ ∈ lwg := lwg_mem 269 (by decide +kernel) (by decide +kernel)
theorem wi_270 : Cond.instanceMethod ⟨"java/lang/RuntimeException", "<init>", "(Ljava/lang/String;)V"⟩ ∈ lwg := lwg_mem 270 (by decide +kernel) (by decide +kernel)
theorem wi_272 : Cond.methodLink "java/lang/RuntimeException" 7 ⟨"java/lang/Exception", "<init>", "(Ljava/lang/String;)V"⟩ ∈ lwg := lwg_mem 272 (by decide +kernel) (by decide +kernel)
theorem wi_273 : Cond.instanceMethod ⟨"java/lang/Exception", "<init>", "(Ljava/lang/String;)V"⟩ ∈ lwg := lwg_mem 273 (by decide +kernel) (by decide +kernel)
theorem wi_275 : Cond.methodLink "java/lang/Exception" 7 ⟨"java/lang/Throwable", "<init>", "(Ljava/lang/String;)V"⟩ ∈ lwg := lwg_mem 275 (by decide +kernel) (by decide +kernel)
theorem wi_276 : Cond.instanceMethod ⟨"java/lang/Throwable", "<init>", "(Ljava/lang/String;)V"⟩ ∈ lwg := lwg_mem 276 (by decide +kernel) (by decide +kernel)
theorem wi_279 : Cond.fieldLink "java/lang/Throwable" 31 "java/lang/Throwable" "detailMessage" "Ljava/lang/String;" ∈ lwg := lwg_mem 279 (by decide +kernel) (by decide +kernel)
theorem wi_280 : Cond.fieldLink "java/lang/Throwable" 7 "java/lang/Throwable" "cause" "Ljava/lang/Throwable;" ∈ lwg := lwg_mem 280 (by decide +kernel) (by decide +kernel)
theorem wi_281 : Cond.fieldLink "java/lang/Throwable" 17 "java/lang/Throwable" "stackTrace" "[Ljava/lang/StackTraceElement;" ∈ lwg := lwg_mem 281 (by decide +kernel) (by decide +kernel)
theorem wi_282 : Cond.fieldLink "java/lang/Throwable" 24 "java/lang/Throwable" "suppressedExceptions" "Ljava/util/List;" ∈ lwg := lwg_mem 282 (by decide +kernel) (by decide +kernel)
theorem wi_291 : Cond.methodLink RB 45 yB_frameWith ∈ lwg := lwg_mem 291 (by decide +kernel) (by decide +kernel)
theorem wi_293 : Cond.instanceMethod yB_frameWith ∈ lwg := lwg_mem 293 (by decide +kernel) (by decide +kernel)
theorem wi_294 : kB_frameWith ∈ lwg := lwg_mem 294 (by decide +kernel) (by decide +kernel)
theorem wi_295 : Cond.methodLink RB 49 yF_addPin ∈ lwg := lwg_mem 295 (by decide +kernel) (by decide +kernel)
theorem wi_296 : Cond.instanceMethod yF_addPin ∈ lwg := lwg_mem 296 (by decide +kernel) (by decide +kernel)
theorem wi_297 : Cond.selects RF yF_addPin yF_addPin ∈ lwg := lwg_mem 297 (by decide +kernel) (by decide +kernel)
theorem wi_298 : kF_addPin ∈ lwg := lwg_mem 298 (by decide +kernel) (by decide +kernel)
theorem wi_299 : Cond.methodLink RF 25 yJM_min ∈ lwg := lwg_mem 299 (by decide +kernel) (by decide +kernel)
theorem wi_300 : Cond.static yJM_min ∈ lwg := lwg_mem 300 (by decide +kernel) (by decide +kernel)
theorem wi_301 : kJM_min ∈ lwg := lwg_mem 301 (by decide +kernel) (by decide +kernel)
theorem wi_302 : Cond.methodLink RB 52 yB_allHavePins ∈ lwg := lwg_mem 302 (by decide +kernel) (by decide +kernel)
theorem wi_304 : Cond.instanceMethod yB_allHavePins ∈ lwg := lwg_mem 304 (by decide +kernel) (by decide +kernel)
theorem wi_305 : kB_allHavePins ∈ lwg := lwg_mem 305 (by decide +kernel) (by decide +kernel)
theorem wi_306 : Cond.classLink RB 56 "java/lang/IllegalStateException" ∈ lwg := lwg_mem 306 (by decide +kernel) (by decide +kernel)
theorem wi_307 : Cond.instantiable "java/lang/IllegalStateException" 6 ∈ lwg := lwg_mem 307 (by decide +kernel) (by decide +kernel)
theorem wi_309 : Cond.selects "java/lang/IllegalStateException" ⟨"java/lang/Throwable", "fillInStackTrace", "(I)Ljava/lang/Throwable;"⟩ ⟨"java/lang/Throwable", "fillInStackTrace", "(I)Ljava/lang/Throwable;"⟩ ∈ lwg := lwg_mem 309 (by decide +kernel) (by decide +kernel)
theorem wi_316 : Cond.methodLink RB 60 ⟨"java/lang/IllegalStateException", "<init>", "(Ljava/lang/String;)V"⟩ ∈ lwg := lwg_mem 316 (by decide +kernel) (by decide +kernel)
theorem wi_317 : Cond.instanceMethod ⟨"java/lang/IllegalStateException", "<init>", "(Ljava/lang/String;)V"⟩ ∈ lwg := lwg_mem 317 (by decide +kernel) (by decide +kernel)
theorem wi_319 : Cond.methodLink "java/lang/IllegalStateException" 7 ⟨"java/lang/RuntimeException", "<init>", "(Ljava/lang/String;)V"⟩ ∈ lwg := lwg_mem 319 (by decide +kernel) (by decide +kernel)
theorem wi_322 : Cond.classLink RB 64 "java/util/NoSuchElementException" ∈ lwg := lwg_mem 322 (by decide +kernel) (by decide +kernel)
theorem wi_323 : Cond.instantiable "java/util/NoSuchElementException" 6 ∈ lwg := lwg_mem 323 (by decide +kernel) (by decide +kernel)
theorem wi_325 : Cond.selects "java/util/NoSuchElementException" ⟨"java/lang/Throwable", "fillInStackTrace", "(I)Ljava/lang/Throwable;"⟩ ⟨"java/lang/Throwable", "fillInStackTrace", "(I)Ljava/lang/Throwable;"⟩ ∈ lwg := lwg_mem 325 (by decide +kernel) (by decide +kernel)
theorem wi_332 : Cond.methodLink RB 68 ⟨"java/util/NoSuchElementException", "<init>", "(Ljava/lang/String;)V"⟩ ∈ lwg := lwg_mem 332 (by decide +kernel) (by decide +kernel)
theorem wi_333 : Cond.instanceMethod ⟨"java/util/NoSuchElementException", "<init>", "(Ljava/lang/String;)V"⟩ ∈ lwg := lwg_mem 333 (by decide +kernel) (by decide +kernel)
theorem wi_335 : Cond.methodLink "java/util/NoSuchElementException" 13 ⟨"java/lang/RuntimeException", "<init>", "(Ljava/lang/String;)V"⟩ ∈ lwg := lwg_mem 335 (by decide +kernel) (by decide +kernel)
theorem wi_338 : Cond.methodLink RB 69 yB_findFrame ∈ lwg := lwg_mem 338 (by decide +kernel) (by decide +kernel)
theorem wi_340 : Cond.instanceMethod yB_findFrame ∈ lwg := lwg_mem 340 (by decide +kernel) (by decide +kernel)
theorem wi_341 : kB_findFrame ∈ lwg := lwg_mem 341 (by decide +kernel) (by decide +kernel)
theorem wi_342 : Cond.methodLink RB 167 yB_frameByHand ∈ lwg := lwg_mem 342 (by decide +kernel) (by decide +kernel)
theorem wi_344 : Cond.instanceMethod yB_frameByHand ∈ lwg := lwg_mem 344 (by decide +kernel) (by decide +kernel)
theorem wi_345 : kB_frameByHand ∈ lwg := lwg_mem 345 (by decide +kernel) (by decide +kernel)
theorem wi_346 : Cond.methodLink RB 170 yF_canBeTaken ∈ lwg := lwg_mem 346 (by decide +kernel) (by decide +kernel)
theorem wi_347 : Cond.instanceMethod yF_canBeTaken ∈ lwg := lwg_mem 347 (by decide +kernel) (by decide +kernel)
theorem wi_348 : Cond.selects RF yF_canBeTaken yF_canBeTaken ∈ lwg := lwg_mem 348 (by decide +kernel) (by decide +kernel)
theorem wi_349 : kF_canBeTaken ∈ lwg := lwg_mem 349 (by decide +kernel) (by decide +kernel)
theorem wi_350 : Cond.methodLink RB 173 yF_passBy ∈ lwg := lwg_mem 350 (by decide +kernel) (by decide +kernel)
theorem wi_351 : Cond.instanceMethod yF_passBy ∈ lwg := lwg_mem 351 (by decide +kernel) (by decide +kernel)
theorem wi_352 : Cond.selects RF yF_passBy yF_passBy ∈ lwg := lwg_mem 352 (by decide +kernel) (by decide +kernel)
theorem wi_353 : kF_passBy ∈ lwg := lwg_mem 353 (by decide +kernel) (by decide +kernel)
theorem wi_354 : Cond.methodLink RB 125 yB_frameBehind ∈ lwg := lwg_mem 354 (by decide +kernel) (by decide +kernel)
theorem wi_355 : Cond.static yB_frameBehind ∈ lwg := lwg_mem 355 (by decide +kernel) (by decide +kernel)
theorem wi_356 : kB_frameBehind ∈ lwg := lwg_mem 356 (by decide +kernel) (by decide +kernel)
theorem wi_357 : Cond.methodLink RB 121 yB_writePageOf ∈ lwg := lwg_mem 357 (by decide +kernel) (by decide +kernel)
theorem wi_359 : Cond.instanceMethod yB_writePageOf ∈ lwg := lwg_mem 359 (by decide +kernel) (by decide +kernel)
theorem wi_360 : kB_writePageOf ∈ lwg := lwg_mem 360 (by decide +kernel) (by decide +kernel)
theorem wi_361 : Cond.methodLink RB 176 yG_reach ∈ lwg := lwg_mem 361 (by decide +kernel) (by decide +kernel)
theorem wi_362 : Cond.instanceMethod yG_reach ∈ lwg := lwg_mem 362 (by decide +kernel) (by decide +kernel)
theorem wi_363 : Cond.selects RG yG_reach yG_reach ∈ lwg := lwg_mem 363 (by decide +kernel) (by decide +kernel)
theorem wi_364 : kG_reach ∈ lwg := lwg_mem 364 (by decide +kernel) (by decide +kernel)
theorem wi_365 : Cond.methodLink RG 13 yG_advance ∈ lwg := lwg_mem 365 (by decide +kernel) (by decide +kernel)
theorem wi_366 : Cond.methodLink RB 179 yF_raiseStamps ∈ lwg := lwg_mem 366 (by decide +kernel) (by decide +kernel)
theorem wi_367 : Cond.instanceMethod yF_raiseStamps ∈ lwg := lwg_mem 367 (by decide +kernel) (by decide +kernel)
theorem wi_368 : Cond.selects RF yF_raiseStamps yF_raiseStamps ∈ lwg := lwg_mem 368 (by decide +kernel) (by decide +kernel)
theorem wi_369 : kF_raiseStamps ∈ lwg := lwg_mem 369 (by decide +kernel) (by decide +kernel)
theorem wi_370 : Cond.methodLink RF 45 yF_putStamps ∈ lwg := lwg_mem 370 (by decide +kernel) (by decide +kernel)
theorem wi_372 : Cond.instanceMethod yF_putStamps ∈ lwg := lwg_mem 372 (by decide +kernel) (by decide +kernel)
theorem wi_373 : kF_putStamps ∈ lwg := lwg_mem 373 (by decide +kernel) (by decide +kernel)
theorem wi_374 : Cond.methodLink RB 182 yD_writeSector ∈ lwg := lwg_mem 374 (by decide +kernel) (by decide +kernel)
theorem wi_375 : Cond.instanceMethod yD_writeSector ∈ lwg := lwg_mem 375 (by decide +kernel) (by decide +kernel)
theorem wi_376 : Cond.selects RD yD_writeSector yD_writeSector ∈ lwg := lwg_mem 376 (by decide +kernel) (by decide +kernel)
theorem wi_377 : kD_writeSector ∈ lwg := lwg_mem 377 (by decide +kernel) (by decide +kernel)
theorem wi_378 : Cond.methodLink RD 28 arraycopyName ∈ lwg := lwg_mem 378 (by decide +kernel) (by decide +kernel)
theorem wi_379 : Cond.static arraycopyName ∈ lwg := lwg_mem 379 (by decide +kernel) (by decide +kernel)
theorem wi_380 : Cond.native arraycopyName ∈ lwg := lwg_mem 380 (by decide +kernel) (by decide +kernel)
theorem wi_381 : Cond.methodLink RB 186 yB_losePower ∈ lwg := lwg_mem 381 (by decide +kernel) (by decide +kernel)
theorem wi_383 : Cond.instanceMethod yB_losePower ∈ lwg := lwg_mem 383 (by decide +kernel) (by decide +kernel)
theorem wi_384 : kB_losePower ∈ lwg := lwg_mem 384 (by decide +kernel) (by decide +kernel)
theorem wi_385 : Cond.methodLink RB 194 yF_dropPage ∈ lwg := lwg_mem 385 (by decide +kernel) (by decide +kernel)
theorem wi_386 : Cond.instanceMethod yF_dropPage ∈ lwg := lwg_mem 386 (by decide +kernel) (by decide +kernel)
theorem wi_387 : Cond.selects RF yF_dropPage yF_dropPage ∈ lwg := lwg_mem 387 (by decide +kernel) (by decide +kernel)
theorem wi_388 : kF_dropPage ∈ lwg := lwg_mem 388 (by decide +kernel) (by decide +kernel)
theorem wi_389 : Cond.classLink RB 189 "java/lang/UnsupportedOperationException" ∈ lwg := lwg_mem 389 (by decide +kernel) (by decide +kernel)
theorem wi_390 : Cond.instantiable "java/lang/UnsupportedOperationException" 6 ∈ lwg := lwg_mem 390 (by decide +kernel) (by decide +kernel)
theorem wi_392 : Cond.selects "java/lang/UnsupportedOperationException" ⟨"java/lang/Throwable", "fillInStackTrace", "(I)Ljava/lang/Throwable;"⟩ ⟨"java/lang/Throwable", "fillInStackTrace", "(I)Ljava/lang/Throwable;"⟩ ∈ lwg := lwg_mem 392 (by decide +kernel) (by decide +kernel)
theorem wi_399 : Cond.methodLink RB 193 ⟨"java/lang/UnsupportedOperationException", "<init>", "(Ljava/lang/String;)V"⟩ ∈ lwg := lwg_mem 399 (by decide +kernel) (by decide +kernel)
theorem wi_400 : Cond.instanceMethod ⟨"java/lang/UnsupportedOperationException", "<init>", "(Ljava/lang/String;)V"⟩ ∈ lwg := lwg_mem 400 (by decide +kernel) (by decide +kernel)
theorem wi_402 : Cond.methodLink "java/lang/UnsupportedOperationException" 7 ⟨"java/lang/RuntimeException", "<init>", "(Ljava/lang/String;)V"⟩ ∈ lwg := lwg_mem 402 (by decide +kernel) (by decide +kernel)
theorem wi_405 : Cond.methodLink RB 73 yF_takePage ∈ lwg := lwg_mem 405 (by decide +kernel) (by decide +kernel)
theorem wi_406 : Cond.instanceMethod yF_takePage ∈ lwg := lwg_mem 406 (by decide +kernel) (by decide +kernel)
theorem wi_407 : Cond.selects RF yF_takePage yF_takePage ∈ lwg := lwg_mem 407 (by decide +kernel) (by decide +kernel)
theorem wi_408 : kF_takePage ∈ lwg := lwg_mem 408 (by decide +kernel) (by decide +kernel)
theorem wi_409 : Cond.methodLink RB 81 yD_readPage ∈ lwg := lwg_mem 409 (by decide +kernel) (by decide +kernel)
theorem wi_410 : Cond.instanceMethod yD_readPage ∈ lwg := lwg_mem 410 (by decide +kernel) (by decide +kernel)
theorem wi_411 : Cond.selects RD yD_readPage yD_readPage ∈ lwg := lwg_mem 411 (by decide +kernel) (by decide +kernel)
theorem wi_412 : kD_readPage ∈ lwg := lwg_mem 412 (by decide +kernel) (by decide +kernel)
theorem wi_413 : Cond.methodLink RL 48 yL_remake ∈ lwg := lwg_mem 413 (by decide +kernel) (by decide +kernel)
theorem wi_414 : Cond.static yL_remake ∈ lwg := lwg_mem 414 (by decide +kernel) (by decide +kernel)
theorem wi_415 : kL_remake ∈ lwg := lwg_mem 415 (by decide +kernel) (by decide +kernel)
theorem wi_416 : Cond.methodLink RL 21 yB_remake ∈ lwg := lwg_mem 416 (by decide +kernel) (by decide +kernel)
theorem wi_417 : Cond.instanceMethod yB_remake ∈ lwg := lwg_mem 417 (by decide +kernel) (by decide +kernel)
theorem wi_418 : Cond.selects RB yB_remake yB_remake ∈ lwg := lwg_mem 418 (by decide +kernel) (by decide +kernel)
theorem wi_419 : kB_remake ∈ lwg := lwg_mem 419 (by decide +kernel) (by decide +kernel)
theorem wi_421 : Cond.methodLink RB 87 yD_firstStamp ∈ lwg := lwg_mem 421 (by decide +kernel) (by decide +kernel)
theorem wi_422 : Cond.methodLink RB 90 yF_blank ∈ lwg := lwg_mem 422 (by decide +kernel) (by decide +kernel)
theorem wi_423 : Cond.instanceMethod yF_blank ∈ lwg := lwg_mem 423 (by decide +kernel) (by decide +kernel)
theorem wi_424 : Cond.selects RF yF_blank yF_blank ∈ lwg := lwg_mem 424 (by decide +kernel) (by decide +kernel)
theorem wi_425 : kF_blank ∈ lwg := lwg_mem 425 (by decide +kernel) (by decide +kernel)
theorem wi_426 : Cond.methodLink RF 39 yJA_fill ∈ lwg := lwg_mem 426 (by decide +kernel) (by decide +kernel)
theorem wi_427 : Cond.static yJA_fill ∈ lwg := lwg_mem 427 (by decide +kernel) (by decide +kernel)
theorem wi_428 : kJA_fill ∈ lwg := lwg_mem 428 (by decide +kernel) (by decide +kernel)
theorem wi_429 : Cond.methodLink RL 66 yL_clean ∈ lwg := lwg_mem 429 (by decide +kernel) (by decide +kernel)
theorem wi_430 : Cond.static yL_clean ∈ lwg := lwg_mem 430 (by decide +kernel) (by decide +kernel)
theorem wi_431 : kL_clean ∈ lwg := lwg_mem 431 (by decide +kernel) (by decide +kernel)
theorem wi_432 : Cond.methodLink RL 24 yB_clean ∈ lwg := lwg_mem 432 (by decide +kernel) (by decide +kernel)
theorem wi_433 : Cond.instanceMethod yB_clean ∈ lwg := lwg_mem 433 (by decide +kernel) (by decide +kernel)
theorem wi_434 : Cond.selects RB yB_clean yB_clean ∈ lwg := lwg_mem 434 (by decide +kernel) (by decide +kernel)
theorem wi_435 : kB_clean ∈ lwg := lwg_mem 435 (by decide +kernel) (by decide +kernel)
theorem wi_437 : Cond.methodLink RL 69 yL_sweep ∈ lwg := lwg_mem 437 (by decide +kernel) (by decide +kernel)
theorem wi_438 : Cond.static yL_sweep ∈ lwg := lwg_mem 438 (by decide +kernel) (by decide +kernel)
theorem wi_439 : kL_sweep ∈ lwg := lwg_mem 439 (by decide +kernel) (by decide +kernel)
theorem wi_440 : Cond.methodLink RL 27 yB_sweep ∈ lwg := lwg_mem 440 (by decide +kernel) (by decide +kernel)
theorem wi_441 : Cond.instanceMethod yB_sweep ∈ lwg := lwg_mem 441 (by decide +kernel) (by decide +kernel)
theorem wi_442 : Cond.selects RB yB_sweep yB_sweep ∈ lwg := lwg_mem 442 (by decide +kernel) (by decide +kernel)
theorem wi_443 : kB_sweep ∈ lwg := lwg_mem 443 (by decide +kernel) (by decide +kernel)
theorem wi_444 : Cond.methodLink RB 128 yB_dirtyFrameOfLowestPage ∈ lwg := lwg_mem 444 (by decide +kernel) (by decide +kernel)
theorem wi_446 : Cond.instanceMethod yB_dirtyFrameOfLowestPage ∈ lwg := lwg_mem 446 (by decide +kernel) (by decide +kernel)
theorem wi_447 : kB_dirtyFrameOfLowestPage ∈ lwg := lwg_mem 447 (by decide +kernel) (by decide +kernel)
theorem wi_448 : Cond.methodLink RL 73 yL_charge ∈ lwg := lwg_mem 448 (by decide +kernel) (by decide +kernel)
theorem wi_449 : Cond.static yL_charge ∈ lwg := lwg_mem 449 (by decide +kernel) (by decide +kernel)
theorem wi_450 : kL_charge ∈ lwg := lwg_mem 450 (by decide +kernel) (by decide +kernel)
theorem wi_451 : Cond.methodLink RL 31 yB_charge ∈ lwg := lwg_mem 451 (by decide +kernel) (by decide +kernel)
theorem wi_452 : Cond.instanceMethod yB_charge ∈ lwg := lwg_mem 452 (by decide +kernel) (by decide +kernel)
theorem wi_453 : Cond.selects RB yB_charge yB_charge ∈ lwg := lwg_mem 453 (by decide +kernel) (by decide +kernel)
theorem wi_454 : kB_charge ∈ lwg := lwg_mem 454 (by decide +kernel) (by decide +kernel)
theorem wi_456 : Cond.classLink RL 36 RM ∈ lwg := lwg_mem 456 (by decide +kernel) (by decide +kernel)
theorem wi_457 : Cond.instantiable RM 24 ∈ lwg := lwg_mem 457 (by decide +kernel) (by decide +kernel)
theorem wi_458 : Cond.methodLink RL 38 yM_init ∈ lwg := lwg_mem 458 (by decide +kernel) (by decide +kernel)
theorem wi_459 : Cond.instanceMethod yM_init ∈ lwg := lwg_mem 459 (by decide +kernel) (by decide +kernel)
theorem wi_460 : kM_init ∈ lwg := lwg_mem 460 (by decide +kernel) (by decide +kernel)
theorem wi_461 : Cond.methodLink RM 1 objectInit ∈ lwg := lwg_mem 461 (by decide +kernel) (by decide +kernel)
theorem wi_462 : Cond.methodLink RM 64 yM_empty ∈ lwg := lwg_mem 462 (by decide +kernel) (by decide +kernel)
theorem wi_464 : Cond.instanceMethod yM_empty ∈ lwg := lwg_mem 464 (by decide +kernel) (by decide +kernel)
theorem wi_465 : kM_empty ∈ lwg := lwg_mem 465 (by decide +kernel) (by decide +kernel)
theorem wi_466 : Cond.fieldLink RM 67 "BufferDeskModel" "thrown" "I" ∈ lwg := lwg_mem 466 (by decide +kernel) (by decide +kernel)
theorem wi_467 : Cond.fieldLink RM 73 "BufferDeskModel" "now" "I" ∈ lwg := lwg_mem 467 (by decide +kernel) (by decide +kernel)
theorem wi_468 : Cond.fieldLink RM 7 "BufferDeskModel" "changePage" "[S" ∈ lwg := lwg_mem 468 (by decide +kernel) (by decide +kernel)
theorem wi_469 : Cond.fieldLink RM 13 "BufferDeskModel" "changeByte" "[S" ∈ lwg := lwg_mem 469 (by decide +kernel) (by decide +kernel)
theorem wi_470 : Cond.fieldLink RM 16 "BufferDeskModel" "changeValue" "[S" ∈ lwg := lwg_mem 470 (by decide +kernel) (by decide +kernel)
theorem wi_471 : Cond.fieldLink RM 19 "BufferDeskModel" "changePlace" "[I" ∈ lwg := lwg_mem 471 (by decide +kernel) (by decide +kernel)
theorem wi_472 : Cond.fieldLink RM 23 "BufferDeskModel" "byteLost" "[Z" ∈ lwg := lwg_mem 472 (by decide +kernel) (by decide +kernel)
theorem wi_473 : Cond.fieldLink RM 27 "BufferDeskModel" "placeLost" "[Z" ∈ lwg := lwg_mem 473 (by decide +kernel) (by decide +kernel)
theorem wi_474 : Cond.fieldLink RM 30 "BufferDeskModel" "from" "[S" ∈ lwg := lwg_mem 474 (by decide +kernel) (by decide +kernel)
theorem wi_475 : Cond.fieldLink RM 33 "BufferDeskModel" "to" "[S" ∈ lwg := lwg_mem 475 (by decide +kernel) (by decide +kernel)
theorem wi_476 : Cond.fieldLink RM 36 "BufferDeskModel" "firstStamp" "[I" ∈ lwg := lwg_mem 476 (by decide +kernel) (by decide +kernel)
theorem wi_477 : Cond.fieldLink RM 39 "BufferDeskModel" "lastStamp" "[I" ∈ lwg := lwg_mem 477 (by decide +kernel) (by decide +kernel)
theorem wi_478 : Cond.fieldLink RM 42 "BufferDeskModel" "page" "[I" ∈ lwg := lwg_mem 478 (by decide +kernel) (by decide +kernel)
theorem wi_479 : Cond.fieldLink RM 45 "BufferDeskModel" "pins" "[I" ∈ lwg := lwg_mem 479 (by decide +kernel) (by decide +kernel)
theorem wi_480 : Cond.fieldLink RM 48 "BufferDeskModel" "use" "[I" ∈ lwg := lwg_mem 480 (by decide +kernel) (by decide +kernel)
theorem wi_481 : Cond.fieldLink RM 51 "BufferDeskModel" "dirty" "[Z" ∈ lwg := lwg_mem 481 (by decide +kernel) (by decide +kernel)
theorem wi_482 : Cond.fieldLink RM 54 "BufferDeskModel" "stamp" "[I" ∈ lwg := lwg_mem 482 (by decide +kernel) (by decide +kernel)
theorem wi_483 : Cond.fieldLink RM 57 "BufferDeskModel" "base" "[I" ∈ lwg := lwg_mem 483 (by decide +kernel) (by decide +kernel)
theorem wi_484 : Cond.fieldLink RM 70 "BufferDeskModel" "hand" "I" ∈ lwg := lwg_mem 484 (by decide +kernel) (by decide +kernel)
theorem wi_485 : Cond.fieldLink RM 98 "BufferDeskModel" "flushedTo" "I" ∈ lwg := lwg_mem 485 (by decide +kernel) (by decide +kernel)
theorem wi_486 : Cond.fieldLink RM 101 "BufferDeskModel" "flushes" "I" ∈ lwg := lwg_mem 486 (by decide +kernel) (by decide +kernel)
theorem wi_487 : Cond.fieldLink RM 128 "BufferDeskModel" "reads" "I" ∈ lwg := lwg_mem 487 (by decide +kernel) (by decide +kernel)
theorem wi_488 : Cond.fieldLink RM 108 "BufferDeskModel" "written" "I" ∈ lwg := lwg_mem 488 (by decide +kernel) (by decide +kernel)
theorem wi_489 : Cond.fieldLink RM 60 "BufferDeskModel" "left" "I" ∈ lwg := lwg_mem 489 (by decide +kernel) (by decide +kernel)
theorem wi_539 : Cond.arrayClass .short ∈ lwg := lwg_mem 539 (by decide +kernel) (by decide +kernel)
theorem wi_540 : Cond.arrayClass .int ∈ lwg := lwg_mem 540 (by decide +kernel) (by decide +kernel)
theorem wi_541 : Cond.arrayClass .boolean ∈ lwg := lwg_mem 541 (by decide +kernel) (by decide +kernel)
theorem wi_542 : Cond.methodLink RL 45 yM_thrown ∈ lwg := lwg_mem 542 (by decide +kernel) (by decide +kernel)
theorem wi_543 : Cond.instanceMethod yM_thrown ∈ lwg := lwg_mem 543 (by decide +kernel) (by decide +kernel)
theorem wi_544 : Cond.selects RM yM_thrown yM_thrown ∈ lwg := lwg_mem 544 (by decide +kernel) (by decide +kernel)
theorem wi_545 : kM_thrown ∈ lwg := lwg_mem 545 (by decide +kernel) (by decide +kernel)
theorem wi_546 : Cond.methodLink RL 60 yM_get ∈ lwg := lwg_mem 546 (by decide +kernel) (by decide +kernel)
theorem wi_547 : Cond.instanceMethod yM_get ∈ lwg := lwg_mem 547 (by decide +kernel) (by decide +kernel)
theorem wi_548 : Cond.selects RM yM_get yM_get ∈ lwg := lwg_mem 548 (by decide +kernel) (by decide +kernel)
theorem wi_549 : kM_get ∈ lwg := lwg_mem 549 (by decide +kernel) (by decide +kernel)
theorem wi_550 : Cond.methodLink RM 80 yM_part ∈ lwg := lwg_mem 550 (by decide +kernel) (by decide +kernel)
theorem wi_551 : Cond.static yM_part ∈ lwg := lwg_mem 551 (by decide +kernel) (by decide +kernel)
theorem wi_552 : kM_part ∈ lwg := lwg_mem 552 (by decide +kernel) (by decide +kernel)
theorem wi_553 : Cond.methodLink RM 83 yM_framePlace ∈ lwg := lwg_mem 553 (by decide +kernel) (by decide +kernel)
theorem wi_555 : Cond.instanceMethod yM_framePlace ∈ lwg := lwg_mem 555 (by decide +kernel) (by decide +kernel)
theorem wi_556 : kM_framePlace ∈ lwg := lwg_mem 556 (by decide +kernel) (by decide +kernel)
theorem wi_557 : Cond.methodLink RM 76 yM_placeOf ∈ lwg := lwg_mem 557 (by decide +kernel) (by decide +kernel)
theorem wi_559 : Cond.instanceMethod yM_placeOf ∈ lwg := lwg_mem 559 (by decide +kernel) (by decide +kernel)
theorem wi_560 : kM_placeOf ∈ lwg := lwg_mem 560 (by decide +kernel) (by decide +kernel)
theorem wi_561 : Cond.methodLink RM 87 yM_valueOf ∈ lwg := lwg_mem 561 (by decide +kernel) (by decide +kernel)
theorem wi_563 : Cond.instanceMethod yM_valueOf ∈ lwg := lwg_mem 563 (by decide +kernel) (by decide +kernel)
theorem wi_564 : kM_valueOf ∈ lwg := lwg_mem 564 (by decide +kernel) (by decide +kernel)
theorem wi_565 : Cond.methodLink RL 88 yM_disk ∈ lwg := lwg_mem 565 (by decide +kernel) (by decide +kernel)
theorem wi_566 : Cond.instanceMethod yM_disk ∈ lwg := lwg_mem 566 (by decide +kernel) (by decide +kernel)
theorem wi_567 : Cond.selects RM yM_disk yM_disk ∈ lwg := lwg_mem 567 (by decide +kernel) (by decide +kernel)
theorem wi_568 : kM_disk ∈ lwg := lwg_mem 568 (by decide +kernel) (by decide +kernel)
theorem wi_569 : Cond.methodLink RM 91 yM_isPage ∈ lwg := lwg_mem 569 (by decide +kernel) (by decide +kernel)
theorem wi_570 : Cond.static yM_isPage ∈ lwg := lwg_mem 570 (by decide +kernel) (by decide +kernel)
theorem wi_571 : kM_isPage ∈ lwg := lwg_mem 571 (by decide +kernel) (by decide +kernel)
theorem wi_572 : Cond.methodLink RL 92 yM_torn ∈ lwg := lwg_mem 572 (by decide +kernel) (by decide +kernel)
theorem wi_573 : Cond.instanceMethod yM_torn ∈ lwg := lwg_mem 573 (by decide +kernel) (by decide +kernel)
theorem wi_574 : Cond.selects RM yM_torn yM_torn ∈ lwg := lwg_mem 574 (by decide +kernel) (by decide +kernel)
theorem wi_575 : kM_torn ∈ lwg := lwg_mem 575 (by decide +kernel) (by decide +kernel)
theorem wi_576 : Cond.methodLink RM 95 yM_isTorn ∈ lwg := lwg_mem 576 (by decide +kernel) (by decide +kernel)
theorem wi_578 : Cond.instanceMethod yM_isTorn ∈ lwg := lwg_mem 578 (by decide +kernel) (by decide +kernel)
theorem wi_579 : kM_isTorn ∈ lwg := lwg_mem 579 (by decide +kernel) (by decide +kernel)
theorem wi_580 : Cond.methodLink RL 44 yM_pin ∈ lwg := lwg_mem 580 (by decide +kernel) (by decide +kernel)
theorem wi_581 : Cond.instanceMethod yM_pin ∈ lwg := lwg_mem 581 (by decide +kernel) (by decide +kernel)
theorem wi_582 : Cond.selects RM yM_pin yM_pin ∈ lwg := lwg_mem 582 (by decide +kernel) (by decide +kernel)
theorem wi_583 : kM_pin ∈ lwg := lwg_mem 583 (by decide +kernel) (by decide +kernel)
theorem wi_584 : Cond.methodLink RM 114 yM_fails ∈ lwg := lwg_mem 584 (by decide +kernel) (by decide +kernel)
theorem wi_586 : Cond.instanceMethod yM_fails ∈ lwg := lwg_mem 586 (by decide +kernel) (by decide +kernel)
theorem wi_587 : kM_fails ∈ lwg := lwg_mem 587 (by decide +kernel) (by decide +kernel)
theorem wi_588 : Cond.methodLink RM 117 yM_frameOf ∈ lwg := lwg_mem 588 (by decide +kernel) (by decide +kernel)
theorem wi_590 : Cond.instanceMethod yM_frameOf ∈ lwg := lwg_mem 590 (by decide +kernel) (by decide +kernel)
theorem wi_591 : kM_frameOf ∈ lwg := lwg_mem 591 (by decide +kernel) (by decide +kernel)
theorem wi_592 : Cond.methodLink RM 120 yM_allPinned ∈ lwg := lwg_mem 592 (by decide +kernel) (by decide +kernel)
theorem wi_594 : Cond.instanceMethod yM_allPinned ∈ lwg := lwg_mem 594 (by decide +kernel) (by decide +kernel)
theorem wi_595 : kM_allPinned ∈ lwg := lwg_mem 595 (by decide +kernel) (by decide +kernel)
theorem wi_596 : Cond.methodLink RM 124 yM_found ∈ lwg := lwg_mem 596 (by decide +kernel) (by decide +kernel)
theorem wi_598 : Cond.instanceMethod yM_found ∈ lwg := lwg_mem 598 (by decide +kernel) (by decide +kernel)
theorem wi_599 : kM_found ∈ lwg := lwg_mem 599 (by decide +kernel) (by decide +kernel)
theorem wi_600 : Cond.methodLink RM 111 yM_write ∈ lwg := lwg_mem 600 (by decide +kernel) (by decide +kernel)
theorem wi_602 : Cond.instanceMethod yM_write ∈ lwg := lwg_mem 602 (by decide +kernel) (by decide +kernel)
theorem wi_603 : kM_write ∈ lwg := lwg_mem 603 (by decide +kernel) (by decide +kernel)
theorem wi_604 : Cond.constant RM 104 65536 ∈ lwg := lwg_mem 604 (by decide +kernel) (by decide +kernel)
theorem wi_605 : Cond.methodLink RM 105 yM_cut ∈ lwg := lwg_mem 605 (by decide +kernel) (by decide +kernel)
theorem wi_607 : Cond.instanceMethod yM_cut ∈ lwg := lwg_mem 607 (by decide +kernel) (by decide +kernel)
theorem wi_608 : kM_cut ∈ lwg := lwg_mem 608 (by decide +kernel) (by decide +kernel)
theorem wi_609 : Cond.methodLink RM 131 yM_fill ∈ lwg := lwg_mem 609 (by decide +kernel) (by decide +kernel)
theorem wi_611 : Cond.instanceMethod yM_fill ∈ lwg := lwg_mem 611 (by decide +kernel) (by decide +kernel)
theorem wi_612 : kM_fill ∈ lwg := lwg_mem 612 (by decide +kernel) (by decide +kernel)
theorem wi_613 : Cond.methodLink RL 50 yM_remake ∈ lwg := lwg_mem 613 (by decide +kernel) (by decide +kernel)
theorem wi_614 : Cond.instanceMethod yM_remake ∈ lwg := lwg_mem 614 (by decide +kernel) (by decide +kernel)
theorem wi_615 : Cond.selects RM yM_remake yM_remake ∈ lwg := lwg_mem 615 (by decide +kernel) (by decide +kernel)
theorem wi_616 : kM_remake ∈ lwg := lwg_mem 616 (by decide +kernel) (by decide +kernel)
theorem wi_617 : Cond.methodLink RL 55 yM_unpin ∈ lwg := lwg_mem 617 (by decide +kernel) (by decide +kernel)
theorem wi_618 : Cond.instanceMethod yM_unpin ∈ lwg := lwg_mem 618 (by decide +kernel) (by decide +kernel)
theorem wi_619 : Cond.selects RM yM_unpin yM_unpin ∈ lwg := lwg_mem 619 (by decide +kernel) (by decide +kernel)
theorem wi_620 : kM_unpin ∈ lwg := lwg_mem 620 (by decide +kernel) (by decide +kernel)
theorem wi_621 : Cond.methodLink RM 135 yM_isPinned ∈ lwg := lwg_mem 621 (by decide +kernel) (by decide +kernel)
theorem wi_623 : Cond.instanceMethod yM_isPinned ∈ lwg := lwg_mem 623 (by decide +kernel) (by decide +kernel)
theorem wi_624 : kM_isPinned ∈ lwg := lwg_mem 624 (by decide +kernel) (by decide +kernel)
theorem wi_625 : Cond.methodLink RL 65 yM_set ∈ lwg := lwg_mem 625 (by decide +kernel) (by decide +kernel)
theorem wi_626 : Cond.instanceMethod yM_set ∈ lwg := lwg_mem 626 (by decide +kernel) (by decide +kernel)
theorem wi_627 : Cond.selects RM yM_set yM_set ∈ lwg := lwg_mem 627 (by decide +kernel) (by decide +kernel)
theorem wi_628 : kM_set ∈ lwg := lwg_mem 628 (by decide +kernel) (by decide +kernel)
theorem wi_629 : Cond.methodLink RL 68 yM_clean ∈ lwg := lwg_mem 629 (by decide +kernel) (by decide +kernel)
theorem wi_630 : Cond.instanceMethod yM_clean ∈ lwg := lwg_mem 630 (by decide +kernel) (by decide +kernel)
theorem wi_631 : Cond.selects RM yM_clean yM_clean ∈ lwg := lwg_mem 631 (by decide +kernel) (by decide +kernel)
theorem wi_632 : kM_clean ∈ lwg := lwg_mem 632 (by decide +kernel) (by decide +kernel)
theorem wi_633 : Cond.methodLink RL 72 yM_sweep ∈ lwg := lwg_mem 633 (by decide +kernel) (by decide +kernel)
theorem wi_634 : Cond.instanceMethod yM_sweep ∈ lwg := lwg_mem 634 (by decide +kernel) (by decide +kernel)
theorem wi_635 : Cond.selects RM yM_sweep yM_sweep ∈ lwg := lwg_mem 635 (by decide +kernel) (by decide +kernel)
theorem wi_636 : kM_sweep ∈ lwg := lwg_mem 636 (by decide +kernel) (by decide +kernel)
theorem wi_637 : Cond.methodLink RL 76 yM_charge ∈ lwg := lwg_mem 637 (by decide +kernel) (by decide +kernel)
theorem wi_638 : Cond.instanceMethod yM_charge ∈ lwg := lwg_mem 638 (by decide +kernel) (by decide +kernel)
theorem wi_639 : Cond.selects RM yM_charge yM_charge ∈ lwg := lwg_mem 639 (by decide +kernel) (by decide +kernel)
theorem wi_640 : kM_charge ∈ lwg := lwg_mem 640 (by decide +kernel) (by decide +kernel)
theorem wi_641 : Cond.methodLink RL 80 yM_flushed ∈ lwg := lwg_mem 641 (by decide +kernel) (by decide +kernel)
theorem wi_642 : Cond.instanceMethod yM_flushed ∈ lwg := lwg_mem 642 (by decide +kernel) (by decide +kernel)
theorem wi_643 : Cond.selects RM yM_flushed yM_flushed ∈ lwg := lwg_mem 643 (by decide +kernel) (by decide +kernel)
theorem wi_644 : kM_flushed ∈ lwg := lwg_mem 644 (by decide +kernel) (by decide +kernel)
theorem wi_645 : Cond.methodLink RL 84 yM_look ∈ lwg := lwg_mem 645 (by decide +kernel) (by decide +kernel)
theorem wi_646 : Cond.instanceMethod yM_look ∈ lwg := lwg_mem 646 (by decide +kernel) (by decide +kernel)
theorem wi_647 : Cond.selects RM yM_look yM_look ∈ lwg := lwg_mem 647 (by decide +kernel) (by decide +kernel)
theorem wi_648 : kM_look ∈ lwg := lwg_mem 648 (by decide +kernel) (by decide +kernel)
theorem wi_649 : Cond.methodLink RL 96 yM_count ∈ lwg := lwg_mem 649 (by decide +kernel) (by decide +kernel)
theorem wi_650 : Cond.instanceMethod yM_count ∈ lwg := lwg_mem 650 (by decide +kernel) (by decide +kernel)
theorem wi_651 : Cond.selects RM yM_count yM_count ∈ lwg := lwg_mem 651 (by decide +kernel) (by decide +kernel)
theorem wi_652 : kM_count ∈ lwg := lwg_mem 652 (by decide +kernel) (by decide +kernel)
theorem wi_653 : Cond.arrayClass .long ∈ lwg := lwg_mem 653 (by decide +kernel) (by decide +kernel)
theorem inD : ∀ w ∈ u_ws RD TD 4, w ∈ lwg := by decide +kernel
theorem inF : ∀ w ∈ u_ws RF TF 5, w ∈ lwg := by decide +kernel
theorem inG : ∀ w ∈ u_ws RG TG 2, w ∈ lwg := by decide +kernel
theorem inB : ∀ w ∈ u_ws RB TB 4, w ∈ lwg := by decide +kernel
theorem inM : ∀ w ∈ u_ws RM TM 24, w ∈ lwg := by decide +kernel
def nsB : List Cond := [Cond.methodLinkNest RB 11 yD_init "BufferDesk", Cond.fieldLinkNest RB 133 "BufferDesk$Drive" "sectorsLeft" "I" "BufferDesk", Cond.fieldLinkNest RB 155 "BufferDesk$Drive" "sectorsWritten" "I" "BufferDesk", Cond.fieldLinkNest RB 152 "BufferDesk$Drive" "pagesRead" "I" "BufferDesk", Cond.methodLinkNest RB 18 yG_init "BufferDesk", Cond.fieldLinkNest RB 158 "BufferDesk$Log" "end" "I" "BufferDesk", Cond.fieldLinkNest RB 161 "BufferDesk$Log" "flushes" "I" "BufferDesk", Cond.methodLinkNest RB 29 yF_init "BufferDesk", Cond.fieldLinkNest RB 77 "BufferDesk$Frame" "bytes" "[B" "BufferDesk", Cond.fieldLinkNest RB 139 "BufferDesk$Frame" "page" "I" "BufferDesk", Cond.fieldLinkNest RB 142 "BufferDesk$Frame" "pins" "I" "BufferDesk", Cond.fieldLinkNest RB 145 "BufferDesk$Frame" "use" "I" "BufferDesk", Cond.fieldLinkNest RB 117 "BufferDesk$Frame" "dirty" "Z" "BufferDesk", Cond.methodLinkNest RF 35 yB_twoBytes "BufferDesk", Cond.methodLinkNest RD 20 yB_twoBytes "BufferDesk"]
theorem nsB_in : ∀ w ∈ nsB, w ∈ lw_tbl := by decide +kernel
theorem ns_0 : Cond.methodLinkNest RB 11 yD_init "BufferDesk" ∈ nsB := List.mem_of_getElem? (i := 0) (by decide +kernel)
theorem ns_1 : Cond.fieldLinkNest RB 133 "BufferDesk$Drive" "sectorsLeft" "I" "BufferDesk" ∈ nsB := List.mem_of_getElem? (i := 1) (by decide +kernel)
theorem ns_2 : Cond.fieldLinkNest RB 155 "BufferDesk$Drive" "sectorsWritten" "I" "BufferDesk" ∈ nsB := List.mem_of_getElem? (i := 2) (by decide +kernel)
theorem ns_3 : Cond.fieldLinkNest RB 152 "BufferDesk$Drive" "pagesRead" "I" "BufferDesk" ∈ nsB := List.mem_of_getElem? (i := 3) (by decide +kernel)
theorem ns_4 : Cond.methodLinkNest RB 18 yG_init "BufferDesk" ∈ nsB := List.mem_of_getElem? (i := 4) (by decide +kernel)
theorem ns_5 : Cond.fieldLinkNest RB 158 "BufferDesk$Log" "end" "I" "BufferDesk" ∈ nsB := List.mem_of_getElem? (i := 5) (by decide +kernel)
theorem ns_6 : Cond.fieldLinkNest RB 161 "BufferDesk$Log" "flushes" "I" "BufferDesk" ∈ nsB := List.mem_of_getElem? (i := 6) (by decide +kernel)
theorem ns_7 : Cond.methodLinkNest RB 29 yF_init "BufferDesk" ∈ nsB := List.mem_of_getElem? (i := 7) (by decide +kernel)
theorem ns_8 : Cond.fieldLinkNest RB 77 "BufferDesk$Frame" "bytes" "[B" "BufferDesk" ∈ nsB := List.mem_of_getElem? (i := 8) (by decide +kernel)
theorem ns_9 : Cond.fieldLinkNest RB 139 "BufferDesk$Frame" "page" "I" "BufferDesk" ∈ nsB := List.mem_of_getElem? (i := 9) (by decide +kernel)
theorem ns_10 : Cond.fieldLinkNest RB 142 "BufferDesk$Frame" "pins" "I" "BufferDesk" ∈ nsB := List.mem_of_getElem? (i := 10) (by decide +kernel)
theorem ns_11 : Cond.fieldLinkNest RB 145 "BufferDesk$Frame" "use" "I" "BufferDesk" ∈ nsB := List.mem_of_getElem? (i := 11) (by decide +kernel)
theorem ns_12 : Cond.fieldLinkNest RB 117 "BufferDesk$Frame" "dirty" "Z" "BufferDesk" ∈ nsB := List.mem_of_getElem? (i := 12) (by decide +kernel)
theorem ns_13 : Cond.methodLinkNest RF 35 yB_twoBytes "BufferDesk" ∈ nsB := List.mem_of_getElem? (i := 13) (by decide +kernel)
theorem ns_14 : Cond.methodLinkNest RD 20 yB_twoBytes "BufferDesk" ∈ nsB := List.mem_of_getElem? (i := 14) (by decide +kernel)
end
section
theorem dD_init_0 : decode cD_init 0 = .ok (.aload_n 0, 1) := by decide +kernel
theorem dD_init_1 : decode cD_init 1 = .ok (.invokespecial 3, 3) := by decide +kernel
theorem dD_init_4 : decode cD_init 4 = .ok (.aload_n 0, 1) := by decide +kernel
theorem dD_init_5 : decode cD_init 5 = .ok (.ldc 9, 2) := by decide +kernel
theorem dD_init_7 : decode cD_init 7 = .ok (.newarray .byte, 2) := by decide +kernel
theorem dD_init_9 : decode cD_init 9 = .ok (.putfield 10, 3) := by decide +kernel
theorem dD_init_12 : decode cD_init 12 = .ok (.aload_n 0, 1) := by decide +kernel
theorem dD_init_13 : decode cD_init 13 = .ok (.iconst (-1), 1) := by decide +kernel
theorem dD_init_14 : decode cD_init 14 = .ok (.putfield 16, 3) := by decide +kernel
theorem dD_init_17 : decode cD_init 17 = .ok (.return_, 1) := by decide +kernel
theorem dD_byteAt_0 : decode cD_byteAt 0 = .ok (.aload_n 0, 1) := by decide +kernel
theorem dD_byteAt_1 : decode cD_byteAt 1 = .ok (.getfield 10, 3) := by decide +kernel
theorem dD_byteAt_4 : decode cD_byteAt 4 = .ok (.iload_n 1, 1) := by decide +kernel
theorem dD_byteAt_5 : decode cD_byteAt 5 = .ok (.sipush 512, 3) := by decide +kernel
theorem dD_byteAt_8 : decode cD_byteAt 8 = .ok (.imul, 1) := by decide +kernel
theorem dD_byteAt_9 : decode cD_byteAt 9 = .ok (.iload_n 2, 1) := by decide +kernel
theorem dD_byteAt_10 : decode cD_byteAt 10 = .ok (.iadd, 1) := by decide +kernel
theorem dD_byteAt_11 : decode cD_byteAt 11 = .ok (.baload, 1) := by decide +kernel
theorem dD_byteAt_12 : decode cD_byteAt 12 = .ok (.sipush 255, 3) := by decide +kernel
theorem dD_byteAt_15 : decode cD_byteAt 15 = .ok (.iand, 1) := by decide +kernel
theorem dD_byteAt_16 : decode cD_byteAt 16 = .ok (.ireturn, 1) := by decide +kernel
theorem dD_firstStamp_0 : decode cD_firstStamp 0 = .ok (.aload_n 0, 1) := by decide +kernel
theorem dD_firstStamp_1 : decode cD_firstStamp 1 = .ok (.getfield 10, 3) := by decide +kernel
theorem dD_firstStamp_4 : decode cD_firstStamp 4 = .ok (.iload_n 1, 1) := by decide +kernel
theorem dD_firstStamp_5 : decode cD_firstStamp 5 = .ok (.sipush 512, 3) := by decide +kernel
theorem dD_firstStamp_8 : decode cD_firstStamp 8 = .ok (.imul, 1) := by decide +kernel
theorem dD_firstStamp_9 : decode cD_firstStamp 9 = .ok (.iconst 0, 1) := by decide +kernel
theorem dD_firstStamp_10 : decode cD_firstStamp 10 = .ok (.iadd, 1) := by decide +kernel
theorem dD_firstStamp_11 : decode cD_firstStamp 11 = .ok (.invokestatic 20, 3) := by decide +kernel
theorem dD_firstStamp_14 : decode cD_firstStamp 14 = .ok (.ireturn, 1) := by decide +kernel
theorem dD_isTorn_0 : decode cD_isTorn 0 = .ok (.aload_n 0, 1) := by decide +kernel
theorem dD_isTorn_1 : decode cD_isTorn 1 = .ok (.iload_n 1, 1) := by decide +kernel
theorem dD_isTorn_2 : decode cD_isTorn 2 = .ok (.invokevirtual 24, 3) := by decide +kernel
theorem dD_isTorn_5 : decode cD_isTorn 5 = .ok (.aload_n 0, 1) := by decide +kernel
theorem dD_isTorn_6 : decode cD_isTorn 6 = .ok (.getfield 10, 3) := by decide +kernel
theorem dD_isTorn_9 : decode cD_isTorn 9 = .ok (.iload_n 1, 1) := by decide +kernel
theorem dD_isTorn_10 : decode cD_isTorn 10 = .ok (.sipush 512, 3) := by decide +kernel
theorem dD_isTorn_13 : decode cD_isTorn 13 = .ok (.imul, 1) := by decide +kernel
theorem dD_isTorn_14 : decode cD_isTorn 14 = .ok (.sipush 510, 3) := by decide +kernel
theorem dD_isTorn_17 : decode cD_isTorn 17 = .ok (.iadd, 1) := by decide +kernel
theorem dD_isTorn_18 : decode cD_isTorn 18 = .ok (.invokestatic 20, 3) := by decide +kernel
theorem dD_isTorn_21 : decode cD_isTorn 21 = .ok (.if_icmp .eq 7, 3) := by decide +kernel
theorem dD_isTorn_24 : decode cD_isTorn 24 = .ok (.iconst 1, 1) := by decide +kernel
theorem dD_isTorn_25 : decode cD_isTorn 25 = .ok (.goto 4, 3) := by decide +kernel
theorem dD_isTorn_28 : decode cD_isTorn 28 = .ok (.iconst 0, 1) := by decide +kernel
theorem dD_isTorn_29 : decode cD_isTorn 29 = .ok (.ireturn, 1) := by decide +kernel
theorem dD_readPage_0 : decode cD_readPage 0 = .ok (.aload_n 0, 1) := by decide +kernel
theorem dD_readPage_1 : decode cD_readPage 1 = .ok (.getfield 10, 3) := by decide +kernel
theorem dD_readPage_4 : decode cD_readPage 4 = .ok (.iload_n 1, 1) := by decide +kernel
theorem dD_readPage_5 : decode cD_readPage 5 = .ok (.sipush 512, 3) := by decide +kernel
theorem dD_readPage_8 : decode cD_readPage 8 = .ok (.imul, 1) := by decide +kernel
theorem dD_readPage_9 : decode cD_readPage 9 = .ok (.aload_n 2, 1) := by decide +kernel
theorem dD_readPage_10 : decode cD_readPage 10 = .ok (.iconst 0, 1) := by decide +kernel
theorem dD_readPage_11 : decode cD_readPage 11 = .ok (.sipush 512, 3) := by decide +kernel
theorem dD_readPage_14 : decode cD_readPage 14 = .ok (.invokestatic 28, 3) := by decide +kernel
theorem dD_readPage_17 : decode cD_readPage 17 = .ok (.aload_n 0, 1) := by decide +kernel
theorem dD_readPage_18 : decode cD_readPage 18 = .ok (.dup, 1) := by decide +kernel
theorem dD_readPage_19 : decode cD_readPage 19 = .ok (.getfield 34, 3) := by decide +kernel
theorem dD_readPage_22 : decode cD_readPage 22 = .ok (.iconst 1, 1) := by decide +kernel
theorem dD_readPage_23 : decode cD_readPage 23 = .ok (.iadd, 1) := by decide +kernel
theorem dD_readPage_24 : decode cD_readPage 24 = .ok (.putfield 34, 3) := by decide +kernel
theorem dD_readPage_27 : decode cD_readPage 27 = .ok (.return_, 1) := by decide +kernel
theorem dD_writeSector_0 : decode cD_writeSector 0 = .ok (.aload_n 0, 1) := by decide +kernel
theorem dD_writeSector_1 : decode cD_writeSector 1 = .ok (.getfield 16, 3) := by decide +kernel
theorem dD_writeSector_4 : decode cD_writeSector 4 = .ok (.ifCond .ne 5, 3) := by decide +kernel
theorem dD_writeSector_7 : decode cD_writeSector 7 = .ok (.iconst 0, 1) := by decide +kernel
theorem dD_writeSector_8 : decode cD_writeSector 8 = .ok (.ireturn, 1) := by decide +kernel
theorem dD_writeSector_9 : decode cD_writeSector 9 = .ok (.aload_n 0, 1) := by decide +kernel
theorem dD_writeSector_10 : decode cD_writeSector 10 = .ok (.getfield 16, 3) := by decide +kernel
theorem dD_writeSector_13 : decode cD_writeSector 13 = .ok (.iconst (-1), 1) := by decide +kernel
theorem dD_writeSector_14 : decode cD_writeSector 14 = .ok (.if_icmp .eq 13, 3) := by decide +kernel
theorem dD_writeSector_17 : decode cD_writeSector 17 = .ok (.aload_n 0, 1) := by decide +kernel
theorem dD_writeSector_18 : decode cD_writeSector 18 = .ok (.dup, 1) := by decide +kernel
theorem dD_writeSector_19 : decode cD_writeSector 19 = .ok (.getfield 16, 3) := by decide +kernel
theorem dD_writeSector_22 : decode cD_writeSector 22 = .ok (.iconst 1, 1) := by decide +kernel
theorem dD_writeSector_23 : decode cD_writeSector 23 = .ok (.isub, 1) := by decide +kernel
theorem dD_writeSector_24 : decode cD_writeSector 24 = .ok (.putfield 16, 3) := by decide +kernel
theorem dD_writeSector_27 : decode cD_writeSector 27 = .ok (.iload_n 2, 1) := by decide +kernel
theorem dD_writeSector_28 : decode cD_writeSector 28 = .ok (.bipush 64, 2) := by decide +kernel
theorem dD_writeSector_30 : decode cD_writeSector 30 = .ok (.imul, 1) := by decide +kernel
theorem dD_writeSector_31 : decode cD_writeSector 31 = .ok (.istore 4, 2) := by decide +kernel
theorem dD_writeSector_33 : decode cD_writeSector 33 = .ok (.aload_n 3, 1) := by decide +kernel
theorem dD_writeSector_34 : decode cD_writeSector 34 = .ok (.iload 4, 2) := by decide +kernel
theorem dD_writeSector_36 : decode cD_writeSector 36 = .ok (.aload_n 0, 1) := by decide +kernel
theorem dD_writeSector_37 : decode cD_writeSector 37 = .ok (.getfield 10, 3) := by decide +kernel
theorem dD_writeSector_40 : decode cD_writeSector 40 = .ok (.iload_n 1, 1) := by decide +kernel
theorem dD_writeSector_41 : decode cD_writeSector 41 = .ok (.sipush 512, 3) := by decide +kernel
theorem dD_writeSector_44 : decode cD_writeSector 44 = .ok (.imul, 1) := by decide +kernel
theorem dD_writeSector_45 : decode cD_writeSector 45 = .ok (.iload 4, 2) := by decide +kernel
theorem dD_writeSector_47 : decode cD_writeSector 47 = .ok (.iadd, 1) := by decide +kernel
theorem dD_writeSector_48 : decode cD_writeSector 48 = .ok (.bipush 64, 2) := by decide +kernel
theorem dD_writeSector_50 : decode cD_writeSector 50 = .ok (.invokestatic 28, 3) := by decide +kernel
theorem dD_writeSector_53 : decode cD_writeSector 53 = .ok (.aload_n 0, 1) := by decide +kernel
theorem dD_writeSector_54 : decode cD_writeSector 54 = .ok (.dup, 1) := by decide +kernel
theorem dD_writeSector_55 : decode cD_writeSector 55 = .ok (.getfield 37, 3) := by decide +kernel
theorem dD_writeSector_58 : decode cD_writeSector 58 = .ok (.iconst 1, 1) := by decide +kernel
theorem dD_writeSector_59 : decode cD_writeSector 59 = .ok (.iadd, 1) := by decide +kernel
theorem dD_writeSector_60 : decode cD_writeSector 60 = .ok (.putfield 37, 3) := by decide +kernel
theorem dD_writeSector_63 : decode cD_writeSector 63 = .ok (.iconst 1, 1) := by decide +kernel
theorem dD_writeSector_64 : decode cD_writeSector 64 = .ok (.ireturn, 1) := by decide +kernel
theorem dF_init_0 : decode cF_init 0 = .ok (.aload_n 0, 1) := by decide +kernel
theorem dF_init_1 : decode cF_init 1 = .ok (.invokespecial 3, 3) := by decide +kernel
theorem dF_init_4 : decode cF_init 4 = .ok (.aload_n 0, 1) := by decide +kernel
theorem dF_init_5 : decode cF_init 5 = .ok (.sipush 512, 3) := by decide +kernel
theorem dF_init_8 : decode cF_init 8 = .ok (.newarray .byte, 2) := by decide +kernel
theorem dF_init_10 : decode cF_init 10 = .ok (.putfield 9, 3) := by decide +kernel
theorem dF_init_13 : decode cF_init 13 = .ok (.aload_n 0, 1) := by decide +kernel
theorem dF_init_14 : decode cF_init 14 = .ok (.iconst (-1), 1) := by decide +kernel
theorem dF_init_15 : decode cF_init 15 = .ok (.putfield 15, 3) := by decide +kernel
theorem dF_init_18 : decode cF_init 18 = .ok (.return_, 1) := by decide +kernel
theorem dF_isEmpty_0 : decode cF_isEmpty 0 = .ok (.aload_n 0, 1) := by decide +kernel
theorem dF_isEmpty_1 : decode cF_isEmpty 1 = .ok (.getfield 15, 3) := by decide +kernel
theorem dF_isEmpty_4 : decode cF_isEmpty 4 = .ok (.iconst (-1), 1) := by decide +kernel
theorem dF_isEmpty_5 : decode cF_isEmpty 5 = .ok (.if_icmp .ne 7, 3) := by decide +kernel
theorem dF_isEmpty_8 : decode cF_isEmpty 8 = .ok (.iconst 1, 1) := by decide +kernel
theorem dF_isEmpty_9 : decode cF_isEmpty 9 = .ok (.goto 4, 3) := by decide +kernel
theorem dF_isEmpty_12 : decode cF_isEmpty 12 = .ok (.iconst 0, 1) := by decide +kernel
theorem dF_isEmpty_13 : decode cF_isEmpty 13 = .ok (.ireturn, 1) := by decide +kernel
theorem dF_hasPins_0 : decode cF_hasPins 0 = .ok (.aload_n 0, 1) := by decide +kernel
theorem dF_hasPins_1 : decode cF_hasPins 1 = .ok (.getfield 19, 3) := by decide +kernel
theorem dF_hasPins_4 : decode cF_hasPins 4 = .ok (.ifCond .le 7, 3) := by decide +kernel
theorem dF_hasPins_7 : decode cF_hasPins 7 = .ok (.iconst 1, 1) := by decide +kernel
theorem dF_hasPins_8 : decode cF_hasPins 8 = .ok (.goto 4, 3) := by decide +kernel
theorem dF_hasPins_11 : decode cF_hasPins 11 = .ok (.iconst 0, 1) := by decide +kernel
theorem dF_hasPins_12 : decode cF_hasPins 12 = .ok (.ireturn, 1) := by decide +kernel
theorem dF_canBeTaken_0 : decode cF_canBeTaken 0 = .ok (.aload_n 0, 1) := by decide +kernel
theorem dF_canBeTaken_1 : decode cF_canBeTaken 1 = .ok (.getfield 19, 3) := by decide +kernel
theorem dF_canBeTaken_4 : decode cF_canBeTaken 4 = .ok (.ifCond .ne 14, 3) := by decide +kernel
theorem dF_canBeTaken_7 : decode cF_canBeTaken 7 = .ok (.aload_n 0, 1) := by decide +kernel
theorem dF_canBeTaken_8 : decode cF_canBeTaken 8 = .ok (.getfield 22, 3) := by decide +kernel
theorem dF_canBeTaken_11 : decode cF_canBeTaken 11 = .ok (.ifCond .ne 7, 3) := by decide +kernel
theorem dF_canBeTaken_14 : decode cF_canBeTaken 14 = .ok (.iconst 1, 1) := by decide +kernel
theorem dF_canBeTaken_15 : decode cF_canBeTaken 15 = .ok (.goto 4, 3) := by decide +kernel
theorem dF_canBeTaken_18 : decode cF_canBeTaken 18 = .ok (.iconst 0, 1) := by decide +kernel
theorem dF_canBeTaken_19 : decode cF_canBeTaken 19 = .ok (.ireturn, 1) := by decide +kernel
theorem dF_addPin_0 : decode cF_addPin 0 = .ok (.aload_n 0, 1) := by decide +kernel
theorem dF_addPin_1 : decode cF_addPin 1 = .ok (.dup, 1) := by decide +kernel
theorem dF_addPin_2 : decode cF_addPin 2 = .ok (.getfield 19, 3) := by decide +kernel
theorem dF_addPin_5 : decode cF_addPin 5 = .ok (.iconst 1, 1) := by decide +kernel
theorem dF_addPin_6 : decode cF_addPin 6 = .ok (.iadd, 1) := by decide +kernel
theorem dF_addPin_7 : decode cF_addPin 7 = .ok (.putfield 19, 3) := by decide +kernel
theorem dF_addPin_10 : decode cF_addPin 10 = .ok (.aload_n 0, 1) := by decide +kernel
theorem dF_addPin_11 : decode cF_addPin 11 = .ok (.aload_n 0, 1) := by decide +kernel
theorem dF_addPin_12 : decode cF_addPin 12 = .ok (.getfield 22, 3) := by decide +kernel
theorem dF_addPin_15 : decode cF_addPin 15 = .ok (.iconst 1, 1) := by decide +kernel
theorem dF_addPin_16 : decode cF_addPin 16 = .ok (.iadd, 1) := by decide +kernel
theorem dF_addPin_17 : decode cF_addPin 17 = .ok (.iconst 3, 1) := by decide +kernel
theorem dF_addPin_18 : decode cF_addPin 18 = .ok (.invokestatic 25, 3) := by decide +kernel
theorem dF_addPin_21 : decode cF_addPin 21 = .ok (.putfield 22, 3) := by decide +kernel
theorem dF_addPin_24 : decode cF_addPin 24 = .ok (.return_, 1) := by decide +kernel
theorem dF_dropPin_0 : decode cF_dropPin 0 = .ok (.aload_n 0, 1) := by decide +kernel
theorem dF_dropPin_1 : decode cF_dropPin 1 = .ok (.dup, 1) := by decide +kernel
theorem dF_dropPin_2 : decode cF_dropPin 2 = .ok (.getfield 19, 3) := by decide +kernel
theorem dF_dropPin_5 : decode cF_dropPin 5 = .ok (.iconst 1, 1) := by decide +kernel
theorem dF_dropPin_6 : decode cF_dropPin 6 = .ok (.isub, 1) := by decide +kernel
theorem dF_dropPin_7 : decode cF_dropPin 7 = .ok (.putfield 19, 3) := by decide +kernel
theorem dF_dropPin_10 : decode cF_dropPin 10 = .ok (.return_, 1) := by decide +kernel
theorem dF_passBy_0 : decode cF_passBy 0 = .ok (.aload_n 0, 1) := by decide +kernel
theorem dF_passBy_1 : decode cF_passBy 1 = .ok (.getfield 19, 3) := by decide +kernel
theorem dF_passBy_4 : decode cF_passBy 4 = .ok (.ifCond .ne 20, 3) := by decide +kernel
theorem dF_passBy_7 : decode cF_passBy 7 = .ok (.aload_n 0, 1) := by decide +kernel
theorem dF_passBy_8 : decode cF_passBy 8 = .ok (.getfield 22, 3) := by decide +kernel
theorem dF_passBy_11 : decode cF_passBy 11 = .ok (.ifCond .le 13, 3) := by decide +kernel
theorem dF_passBy_14 : decode cF_passBy 14 = .ok (.aload_n 0, 1) := by decide +kernel
theorem dF_passBy_15 : decode cF_passBy 15 = .ok (.dup, 1) := by decide +kernel
theorem dF_passBy_16 : decode cF_passBy 16 = .ok (.getfield 22, 3) := by decide +kernel
theorem dF_passBy_19 : decode cF_passBy 19 = .ok (.iconst 1, 1) := by decide +kernel
theorem dF_passBy_20 : decode cF_passBy 20 = .ok (.isub, 1) := by decide +kernel
theorem dF_passBy_21 : decode cF_passBy 21 = .ok (.putfield 22, 3) := by decide +kernel
theorem dF_passBy_24 : decode cF_passBy 24 = .ok (.return_, 1) := by decide +kernel
theorem dF_takePage_0 : decode cF_takePage 0 = .ok (.aload_n 0, 1) := by decide +kernel
theorem dF_takePage_1 : decode cF_takePage 1 = .ok (.iload_n 1, 1) := by decide +kernel
theorem dF_takePage_2 : decode cF_takePage 2 = .ok (.putfield 15, 3) := by decide +kernel
theorem dF_takePage_5 : decode cF_takePage 5 = .ok (.aload_n 0, 1) := by decide +kernel
theorem dF_takePage_6 : decode cF_takePage 6 = .ok (.iconst 1, 1) := by decide +kernel
theorem dF_takePage_7 : decode cF_takePage 7 = .ok (.putfield 19, 3) := by decide +kernel
theorem dF_takePage_10 : decode cF_takePage 10 = .ok (.aload_n 0, 1) := by decide +kernel
theorem dF_takePage_11 : decode cF_takePage 11 = .ok (.iconst 1, 1) := by decide +kernel
theorem dF_takePage_12 : decode cF_takePage 12 = .ok (.putfield 22, 3) := by decide +kernel
theorem dF_takePage_15 : decode cF_takePage 15 = .ok (.aload_n 0, 1) := by decide +kernel
theorem dF_takePage_16 : decode cF_takePage 16 = .ok (.iconst 0, 1) := by decide +kernel
theorem dF_takePage_17 : decode cF_takePage 17 = .ok (.putfield 31, 3) := by decide +kernel
theorem dF_takePage_20 : decode cF_takePage 20 = .ok (.return_, 1) := by decide +kernel
theorem dF_dropPage_0 : decode cF_dropPage 0 = .ok (.aload_n 0, 1) := by decide +kernel
theorem dF_dropPage_1 : decode cF_dropPage 1 = .ok (.iconst (-1), 1) := by decide +kernel
theorem dF_dropPage_2 : decode cF_dropPage 2 = .ok (.putfield 15, 3) := by decide +kernel
theorem dF_dropPage_5 : decode cF_dropPage 5 = .ok (.aload_n 0, 1) := by decide +kernel
theorem dF_dropPage_6 : decode cF_dropPage 6 = .ok (.iconst 0, 1) := by decide +kernel
theorem dF_dropPage_7 : decode cF_dropPage 7 = .ok (.putfield 19, 3) := by decide +kernel
theorem dF_dropPage_10 : decode cF_dropPage 10 = .ok (.aload_n 0, 1) := by decide +kernel
theorem dF_dropPage_11 : decode cF_dropPage 11 = .ok (.iconst 0, 1) := by decide +kernel
theorem dF_dropPage_12 : decode cF_dropPage 12 = .ok (.putfield 22, 3) := by decide +kernel
theorem dF_dropPage_15 : decode cF_dropPage 15 = .ok (.aload_n 0, 1) := by decide +kernel
theorem dF_dropPage_16 : decode cF_dropPage 16 = .ok (.iconst 0, 1) := by decide +kernel
theorem dF_dropPage_17 : decode cF_dropPage 17 = .ok (.putfield 31, 3) := by decide +kernel
theorem dF_dropPage_20 : decode cF_dropPage 20 = .ok (.return_, 1) := by decide +kernel
theorem dF_place_0 : decode cF_place 0 = .ok (.aload_n 0, 1) := by decide +kernel
theorem dF_place_1 : decode cF_place 1 = .ok (.getfield 9, 3) := by decide +kernel
theorem dF_place_4 : decode cF_place 4 = .ok (.iconst 2, 1) := by decide +kernel
theorem dF_place_5 : decode cF_place 5 = .ok (.invokestatic 35, 3) := by decide +kernel
theorem dF_place_8 : decode cF_place 8 = .ok (.bipush 16, 2) := by decide +kernel
theorem dF_place_10 : decode cF_place 10 = .ok (.ishl, 1) := by decide +kernel
theorem dF_place_11 : decode cF_place 11 = .ok (.aload_n 0, 1) := by decide +kernel
theorem dF_place_12 : decode cF_place 12 = .ok (.getfield 9, 3) := by decide +kernel
theorem dF_place_15 : decode cF_place 15 = .ok (.iconst 4, 1) := by decide +kernel
theorem dF_place_16 : decode cF_place 16 = .ok (.invokestatic 35, 3) := by decide +kernel
theorem dF_place_19 : decode cF_place 19 = .ok (.ior, 1) := by decide +kernel
theorem dF_place_20 : decode cF_place 20 = .ok (.ireturn, 1) := by decide +kernel
theorem dF_change_0 : decode cF_change 0 = .ok (.aload_n 0, 1) := by decide +kernel
theorem dF_change_1 : decode cF_change 1 = .ok (.getfield 9, 3) := by decide +kernel
theorem dF_change_4 : decode cF_change 4 = .ok (.iload_n 1, 1) := by decide +kernel
theorem dF_change_5 : decode cF_change 5 = .ok (.iload_n 2, 1) := by decide +kernel
theorem dF_change_6 : decode cF_change 6 = .ok (.i2b, 1) := by decide +kernel
theorem dF_change_7 : decode cF_change 7 = .ok (.bastore, 1) := by decide +kernel
theorem dF_change_8 : decode cF_change 8 = .ok (.aload_n 0, 1) := by decide +kernel
theorem dF_change_9 : decode cF_change 9 = .ok (.getfield 9, 3) := by decide +kernel
theorem dF_change_12 : decode cF_change 12 = .ok (.iconst 2, 1) := by decide +kernel
theorem dF_change_13 : decode cF_change 13 = .ok (.iload_n 3, 1) := by decide +kernel
theorem dF_change_14 : decode cF_change 14 = .ok (.bipush 24, 2) := by decide +kernel
theorem dF_change_16 : decode cF_change 16 = .ok (.iushr, 1) := by decide +kernel
theorem dF_change_17 : decode cF_change 17 = .ok (.i2b, 1) := by decide +kernel
theorem dF_change_18 : decode cF_change 18 = .ok (.bastore, 1) := by decide +kernel
theorem dF_change_19 : decode cF_change 19 = .ok (.aload_n 0, 1) := by decide +kernel
theorem dF_change_20 : decode cF_change 20 = .ok (.getfield 9, 3) := by decide +kernel
theorem dF_change_23 : decode cF_change 23 = .ok (.iconst 3, 1) := by decide +kernel
theorem dF_change_24 : decode cF_change 24 = .ok (.iload_n 3, 1) := by decide +kernel
theorem dF_change_25 : decode cF_change 25 = .ok (.bipush 16, 2) := by decide +kernel
theorem dF_change_27 : decode cF_change 27 = .ok (.iushr, 1) := by decide +kernel
theorem dF_change_28 : decode cF_change 28 = .ok (.i2b, 1) := by decide +kernel
theorem dF_change_29 : decode cF_change 29 = .ok (.bastore, 1) := by decide +kernel
theorem dF_change_30 : decode cF_change 30 = .ok (.aload_n 0, 1) := by decide +kernel
theorem dF_change_31 : decode cF_change 31 = .ok (.getfield 9, 3) := by decide +kernel
theorem dF_change_34 : decode cF_change 34 = .ok (.iconst 4, 1) := by decide +kernel
theorem dF_change_35 : decode cF_change 35 = .ok (.iload_n 3, 1) := by decide +kernel
theorem dF_change_36 : decode cF_change 36 = .ok (.bipush 8, 2) := by decide +kernel
theorem dF_change_38 : decode cF_change 38 = .ok (.iushr, 1) := by decide +kernel
theorem dF_change_39 : decode cF_change 39 = .ok (.i2b, 1) := by decide +kernel
theorem dF_change_40 : decode cF_change 40 = .ok (.bastore, 1) := by decide +kernel
theorem dF_change_41 : decode cF_change 41 = .ok (.aload_n 0, 1) := by decide +kernel
theorem dF_change_42 : decode cF_change 42 = .ok (.getfield 9, 3) := by decide +kernel
theorem dF_change_45 : decode cF_change 45 = .ok (.iconst 5, 1) := by decide +kernel
theorem dF_change_46 : decode cF_change 46 = .ok (.iload_n 3, 1) := by decide +kernel
theorem dF_change_47 : decode cF_change 47 = .ok (.i2b, 1) := by decide +kernel
theorem dF_change_48 : decode cF_change 48 = .ok (.bastore, 1) := by decide +kernel
theorem dF_change_49 : decode cF_change 49 = .ok (.aload_n 0, 1) := by decide +kernel
theorem dF_change_50 : decode cF_change 50 = .ok (.iconst 1, 1) := by decide +kernel
theorem dF_change_51 : decode cF_change 51 = .ok (.putfield 31, 3) := by decide +kernel
theorem dF_change_54 : decode cF_change 54 = .ok (.return_, 1) := by decide +kernel
theorem dF_blank_0 : decode cF_blank 0 = .ok (.aload_n 0, 1) := by decide +kernel
theorem dF_blank_1 : decode cF_blank 1 = .ok (.getfield 9, 3) := by decide +kernel
theorem dF_blank_4 : decode cF_blank 4 = .ok (.iconst 0, 1) := by decide +kernel
theorem dF_blank_5 : decode cF_blank 5 = .ok (.invokestatic 39, 3) := by decide +kernel
theorem dF_blank_8 : decode cF_blank 8 = .ok (.aload_n 0, 1) := by decide +kernel
theorem dF_blank_9 : decode cF_blank 9 = .ok (.iload_n 1, 1) := by decide +kernel
theorem dF_blank_10 : decode cF_blank 10 = .ok (.invokevirtual 45, 3) := by decide +kernel
theorem dF_blank_13 : decode cF_blank 13 = .ok (.return_, 1) := by decide +kernel
theorem dF_raiseStamps_0 : decode cF_raiseStamps 0 = .ok (.aload_n 0, 1) := by decide +kernel
theorem dF_raiseStamps_1 : decode cF_raiseStamps 1 = .ok (.aload_n 0, 1) := by decide +kernel
theorem dF_raiseStamps_2 : decode cF_raiseStamps 2 = .ok (.getfield 9, 3) := by decide +kernel
theorem dF_raiseStamps_5 : decode cF_raiseStamps 5 = .ok (.iconst 0, 1) := by decide +kernel
theorem dF_raiseStamps_6 : decode cF_raiseStamps 6 = .ok (.invokestatic 35, 3) := by decide +kernel
theorem dF_raiseStamps_9 : decode cF_raiseStamps 9 = .ok (.iconst 1, 1) := by decide +kernel
theorem dF_raiseStamps_10 : decode cF_raiseStamps 10 = .ok (.iadd, 1) := by decide +kernel
theorem dF_raiseStamps_11 : decode cF_raiseStamps 11 = .ok (.invokevirtual 45, 3) := by decide +kernel
theorem dF_raiseStamps_14 : decode cF_raiseStamps 14 = .ok (.return_, 1) := by decide +kernel
theorem dF_putStamps_0 : decode cF_putStamps 0 = .ok (.aload_n 0, 1) := by decide +kernel
theorem dF_putStamps_1 : decode cF_putStamps 1 = .ok (.getfield 9, 3) := by decide +kernel
theorem dF_putStamps_4 : decode cF_putStamps 4 = .ok (.iconst 0, 1) := by decide +kernel
theorem dF_putStamps_5 : decode cF_putStamps 5 = .ok (.iload_n 1, 1) := by decide +kernel
theorem dF_putStamps_6 : decode cF_putStamps 6 = .ok (.bipush 8, 2) := by decide +kernel
theorem dF_putStamps_8 : decode cF_putStamps 8 = .ok (.iushr, 1) := by decide +kernel
theorem dF_putStamps_9 : decode cF_putStamps 9 = .ok (.i2b, 1) := by decide +kernel
theorem dF_putStamps_10 : decode cF_putStamps 10 = .ok (.bastore, 1) := by decide +kernel
theorem dF_putStamps_11 : decode cF_putStamps 11 = .ok (.aload_n 0, 1) := by decide +kernel
theorem dF_putStamps_12 : decode cF_putStamps 12 = .ok (.getfield 9, 3) := by decide +kernel
theorem dF_putStamps_15 : decode cF_putStamps 15 = .ok (.iconst 1, 1) := by decide +kernel
theorem dF_putStamps_16 : decode cF_putStamps 16 = .ok (.iload_n 1, 1) := by decide +kernel
theorem dF_putStamps_17 : decode cF_putStamps 17 = .ok (.i2b, 1) := by decide +kernel
theorem dF_putStamps_18 : decode cF_putStamps 18 = .ok (.bastore, 1) := by decide +kernel
theorem dF_putStamps_19 : decode cF_putStamps 19 = .ok (.aload_n 0, 1) := by decide +kernel
theorem dF_putStamps_20 : decode cF_putStamps 20 = .ok (.getfield 9, 3) := by decide +kernel
theorem dF_putStamps_23 : decode cF_putStamps 23 = .ok (.sipush 510, 3) := by decide +kernel
theorem dF_putStamps_26 : decode cF_putStamps 26 = .ok (.aload_n 0, 1) := by decide +kernel
theorem dF_putStamps_27 : decode cF_putStamps 27 = .ok (.getfield 9, 3) := by decide +kernel
theorem dF_putStamps_30 : decode cF_putStamps 30 = .ok (.iconst 0, 1) := by decide +kernel
theorem dF_putStamps_31 : decode cF_putStamps 31 = .ok (.baload, 1) := by decide +kernel
theorem dF_putStamps_32 : decode cF_putStamps 32 = .ok (.bastore, 1) := by decide +kernel
theorem dF_putStamps_33 : decode cF_putStamps 33 = .ok (.aload_n 0, 1) := by decide +kernel
theorem dF_putStamps_34 : decode cF_putStamps 34 = .ok (.getfield 9, 3) := by decide +kernel
theorem dF_putStamps_37 : decode cF_putStamps 37 = .ok (.sipush 511, 3) := by decide +kernel
theorem dF_putStamps_40 : decode cF_putStamps 40 = .ok (.aload_n 0, 1) := by decide +kernel
theorem dF_putStamps_41 : decode cF_putStamps 41 = .ok (.getfield 9, 3) := by decide +kernel
theorem dF_putStamps_44 : decode cF_putStamps 44 = .ok (.iconst 1, 1) := by decide +kernel
theorem dF_putStamps_45 : decode cF_putStamps 45 = .ok (.baload, 1) := by decide +kernel
theorem dF_putStamps_46 : decode cF_putStamps 46 = .ok (.bastore, 1) := by decide +kernel
theorem dF_putStamps_47 : decode cF_putStamps 47 = .ok (.return_, 1) := by decide +kernel
theorem dG_init_0 : decode cG_init 0 = .ok (.aload_n 0, 1) := by decide +kernel
theorem dG_init_1 : decode cG_init 1 = .ok (.invokespecial 1, 3) := by decide +kernel
theorem dG_init_4 : decode cG_init 4 = .ok (.return_, 1) := by decide +kernel
theorem dG_advance_0 : decode cG_advance 0 = .ok (.iload_n 1, 1) := by decide +kernel
theorem dG_advance_1 : decode cG_advance 1 = .ok (.aload_n 0, 1) := by decide +kernel
theorem dG_advance_2 : decode cG_advance 2 = .ok (.getfield 7, 3) := by decide +kernel
theorem dG_advance_5 : decode cG_advance 5 = .ok (.if_icmp .gt 5, 3) := by decide +kernel
theorem dG_advance_8 : decode cG_advance 8 = .ok (.iconst 0, 1) := by decide +kernel
theorem dG_advance_9 : decode cG_advance 9 = .ok (.ireturn, 1) := by decide +kernel
theorem dG_advance_10 : decode cG_advance 10 = .ok (.aload_n 0, 1) := by decide +kernel
theorem dG_advance_11 : decode cG_advance 11 = .ok (.iload_n 1, 1) := by decide +kernel
theorem dG_advance_12 : decode cG_advance 12 = .ok (.putfield 7, 3) := by decide +kernel
theorem dG_advance_15 : decode cG_advance 15 = .ok (.iconst 1, 1) := by decide +kernel
theorem dG_advance_16 : decode cG_advance 16 = .ok (.ireturn, 1) := by decide +kernel
theorem dG_reach_0 : decode cG_reach 0 = .ok (.aload_n 0, 1) := by decide +kernel
theorem dG_reach_1 : decode cG_reach 1 = .ok (.iload_n 1, 1) := by decide +kernel
theorem dG_reach_2 : decode cG_reach 2 = .ok (.invokevirtual 13, 3) := by decide +kernel
theorem dG_reach_5 : decode cG_reach 5 = .ok (.ifCond .eq 13, 3) := by decide +kernel
theorem dG_reach_8 : decode cG_reach 8 = .ok (.aload_n 0, 1) := by decide +kernel
theorem dG_reach_9 : decode cG_reach 9 = .ok (.dup, 1) := by decide +kernel
theorem dG_reach_10 : decode cG_reach 10 = .ok (.getfield 17, 3) := by decide +kernel
theorem dG_reach_13 : decode cG_reach 13 = .ok (.iconst 1, 1) := by decide +kernel
theorem dG_reach_14 : decode cG_reach 14 = .ok (.iadd, 1) := by decide +kernel
theorem dG_reach_15 : decode cG_reach 15 = .ok (.putfield 17, 3) := by decide +kernel
theorem dG_reach_18 : decode cG_reach 18 = .ok (.return_, 1) := by decide +kernel
theorem dJM_min_0 : decode cJM_min 0 = .ok (.iload_n 0, 1) := by decide +kernel
theorem dJM_min_1 : decode cJM_min 1 = .ok (.iload_n 1, 1) := by decide +kernel
theorem dJM_min_2 : decode cJM_min 2 = .ok (.if_icmp .gt 7, 3) := by decide +kernel
theorem dJM_min_5 : decode cJM_min 5 = .ok (.iload_n 0, 1) := by decide +kernel
theorem dJM_min_6 : decode cJM_min 6 = .ok (.goto 4, 3) := by decide +kernel
theorem dJM_min_9 : decode cJM_min 9 = .ok (.iload_n 1, 1) := by decide +kernel
theorem dJM_min_10 : decode cJM_min 10 = .ok (.ireturn, 1) := by decide +kernel
theorem dJA_fill_0 : decode cJA_fill 0 = .ok (.iconst 0, 1) := by decide +kernel
theorem dJA_fill_1 : decode cJA_fill 1 = .ok (.istore_n 2, 1) := by decide +kernel
theorem dJA_fill_2 : decode cJA_fill 2 = .ok (.aload_n 0, 1) := by decide +kernel
theorem dJA_fill_3 : decode cJA_fill 3 = .ok (.arraylength, 1) := by decide +kernel
theorem dJA_fill_4 : decode cJA_fill 4 = .ok (.istore_n 3, 1) := by decide +kernel
theorem dJA_fill_5 : decode cJA_fill 5 = .ok (.iload_n 2, 1) := by decide +kernel
theorem dJA_fill_6 : decode cJA_fill 6 = .ok (.iload_n 3, 1) := by decide +kernel
theorem dJA_fill_7 : decode cJA_fill 7 = .ok (.if_icmp .ge 13, 3) := by decide +kernel
theorem dJA_fill_10 : decode cJA_fill 10 = .ok (.aload_n 0, 1) := by decide +kernel
theorem dJA_fill_11 : decode cJA_fill 11 = .ok (.iload_n 2, 1) := by decide +kernel
theorem dJA_fill_12 : decode cJA_fill 12 = .ok (.iload_n 1, 1) := by decide +kernel
theorem dJA_fill_13 : decode cJA_fill 13 = .ok (.bastore, 1) := by decide +kernel
theorem dJA_fill_14 : decode cJA_fill 14 = .ok (.iinc 2 1, 3) := by decide +kernel
theorem dJA_fill_17 : decode cJA_fill 17 = .ok (.goto (-12), 3) := by decide +kernel
theorem dJA_fill_20 : decode cJA_fill 20 = .ok (.return_, 1) := by decide +kernel
end
section
theorem dB_init_0 : decode cB_init 0 = .ok (.aload_n 0, 1) := by decide +kernel
theorem dB_init_1 : decode cB_init 1 = .ok (.invokespecial 3, 3) := by decide +kernel
theorem dB_init_4 : decode cB_init 4 = .ok (.aload_n 0, 1) := by decide +kernel
theorem dB_init_5 : decode cB_init 5 = .ok (.new 9, 3) := by decide +kernel
theorem dB_init_8 : decode cB_init 8 = .ok (.dup, 1) := by decide +kernel
theorem dB_init_9 : decode cB_init 9 = .ok (.invokespecial 11, 3) := by decide +kernel
theorem dB_init_12 : decode cB_init 12 = .ok (.putfield 12, 3) := by decide +kernel
theorem dB_init_15 : decode cB_init 15 = .ok (.aload_n 0, 1) := by decide +kernel
theorem dB_init_16 : decode cB_init 16 = .ok (.new 16, 3) := by decide +kernel
theorem dB_init_19 : decode cB_init 19 = .ok (.dup, 1) := by decide +kernel
theorem dB_init_20 : decode cB_init 20 = .ok (.invokespecial 18, 3) := by decide +kernel
theorem dB_init_23 : decode cB_init 23 = .ok (.putfield 19, 3) := by decide +kernel
theorem dB_init_26 : decode cB_init 26 = .ok (.aload_n 0, 1) := by decide +kernel
theorem dB_init_27 : decode cB_init 27 = .ok (.bipush 12, 2) := by decide +kernel
theorem dB_init_29 : decode cB_init 29 = .ok (.anewarray 23, 3) := by decide +kernel
theorem dB_init_32 : decode cB_init 32 = .ok (.putfield 25, 3) := by decide +kernel
theorem dB_init_35 : decode cB_init 35 = .ok (.iconst 0, 1) := by decide +kernel
theorem dB_init_36 : decode cB_init 36 = .ok (.istore_n 1, 1) := by decide +kernel
theorem dB_init_37 : decode cB_init 37 = .ok (.iload_n 1, 1) := by decide +kernel
theorem dB_init_38 : decode cB_init 38 = .ok (.bipush 12, 2) := by decide +kernel
theorem dB_init_40 : decode cB_init 40 = .ok (.if_icmp .ge 22, 3) := by decide +kernel
theorem dB_init_43 : decode cB_init 43 = .ok (.aload_n 0, 1) := by decide +kernel
theorem dB_init_44 : decode cB_init 44 = .ok (.getfield 25, 3) := by decide +kernel
theorem dB_init_47 : decode cB_init 47 = .ok (.iload_n 1, 1) := by decide +kernel
theorem dB_init_48 : decode cB_init 48 = .ok (.new 23, 3) := by decide +kernel
theorem dB_init_51 : decode cB_init 51 = .ok (.dup, 1) := by decide +kernel
theorem dB_init_52 : decode cB_init 52 = .ok (.invokespecial 29, 3) := by decide +kernel
theorem dB_init_55 : decode cB_init 55 = .ok (.aastore, 1) := by decide +kernel
theorem dB_init_56 : decode cB_init 56 = .ok (.iinc 1 1, 3) := by decide +kernel
theorem dB_init_59 : decode cB_init 59 = .ok (.goto (-22), 3) := by decide +kernel
theorem dB_init_62 : decode cB_init 62 = .ok (.aload_n 0, 1) := by decide +kernel
theorem dB_init_63 : decode cB_init 63 = .ok (.iconst 0, 1) := by decide +kernel
theorem dB_init_64 : decode cB_init 64 = .ok (.putfield 30, 3) := by decide +kernel
theorem dB_init_67 : decode cB_init 67 = .ok (.return_, 1) := by decide +kernel
theorem dB_pin_0 : decode cB_pin 0 = .ok (.iload_n 1, 1) := by decide +kernel
theorem dB_pin_1 : decode cB_pin 1 = .ok (.invokestatic 34, 3) := by decide +kernel
theorem dB_pin_4 : decode cB_pin 4 = .ok (.ifCond .ne 13, 3) := by decide +kernel
theorem dB_pin_7 : decode cB_pin 7 = .ok (.new 38, 3) := by decide +kernel
theorem dB_pin_10 : decode cB_pin 10 = .ok (.dup, 1) := by decide +kernel
theorem dB_pin_11 : decode cB_pin 11 = .ok (.ldc 40, 2) := by decide +kernel
theorem dB_pin_13 : decode cB_pin 13 = .ok (.invokespecial 42, 3) := by decide +kernel
theorem dB_pin_16 : decode cB_pin 16 = .ok (.athrow, 1) := by decide +kernel
theorem dB_pin_17 : decode cB_pin 17 = .ok (.aload_n 0, 1) := by decide +kernel
theorem dB_pin_18 : decode cB_pin 18 = .ok (.iload_n 1, 1) := by decide +kernel
theorem dB_pin_19 : decode cB_pin 19 = .ok (.invokevirtual 45, 3) := by decide +kernel
theorem dB_pin_22 : decode cB_pin 22 = .ok (.istore_n 2, 1) := by decide +kernel
theorem dB_pin_23 : decode cB_pin 23 = .ok (.iload_n 2, 1) := by decide +kernel
theorem dB_pin_24 : decode cB_pin 24 = .ok (.iconst (-1), 1) := by decide +kernel
theorem dB_pin_25 : decode cB_pin 25 = .ok (.if_icmp .eq 14, 3) := by decide +kernel
theorem dB_pin_28 : decode cB_pin 28 = .ok (.aload_n 0, 1) := by decide +kernel
theorem dB_pin_29 : decode cB_pin 29 = .ok (.getfield 25, 3) := by decide +kernel
theorem dB_pin_32 : decode cB_pin 32 = .ok (.iload_n 2, 1) := by decide +kernel
theorem dB_pin_33 : decode cB_pin 33 = .ok (.aaload, 1) := by decide +kernel
theorem dB_pin_34 : decode cB_pin 34 = .ok (.invokevirtual 49, 3) := by decide +kernel
theorem dB_pin_37 : decode cB_pin 37 = .ok (.iload_n 2, 1) := by decide +kernel
theorem dB_pin_38 : decode cB_pin 38 = .ok (.ireturn, 1) := by decide +kernel
theorem dB_pin_39 : decode cB_pin 39 = .ok (.aload_n 0, 1) := by decide +kernel
theorem dB_pin_40 : decode cB_pin 40 = .ok (.invokevirtual 52, 3) := by decide +kernel
theorem dB_pin_43 : decode cB_pin 43 = .ok (.ifCond .eq 13, 3) := by decide +kernel
theorem dB_pin_46 : decode cB_pin 46 = .ok (.new 56, 3) := by decide +kernel
theorem dB_pin_49 : decode cB_pin 49 = .ok (.dup, 1) := by decide +kernel
theorem dB_pin_50 : decode cB_pin 50 = .ok (.ldc 58, 2) := by decide +kernel
theorem dB_pin_52 : decode cB_pin 52 = .ok (.invokespecial 60, 3) := by decide +kernel
theorem dB_pin_55 : decode cB_pin 55 = .ok (.athrow, 1) := by decide +kernel
theorem dB_pin_56 : decode cB_pin 56 = .ok (.aload_n 0, 1) := by decide +kernel
theorem dB_pin_57 : decode cB_pin 57 = .ok (.getfield 12, 3) := by decide +kernel
theorem dB_pin_60 : decode cB_pin 60 = .ok (.iload_n 1, 1) := by decide +kernel
theorem dB_pin_61 : decode cB_pin 61 = .ok (.invokevirtual 61, 3) := by decide +kernel
theorem dB_pin_64 : decode cB_pin 64 = .ok (.ifCond .eq 13, 3) := by decide +kernel
theorem dB_pin_67 : decode cB_pin 67 = .ok (.new 64, 3) := by decide +kernel
theorem dB_pin_70 : decode cB_pin 70 = .ok (.dup, 1) := by decide +kernel
theorem dB_pin_71 : decode cB_pin 71 = .ok (.ldc 66, 2) := by decide +kernel
theorem dB_pin_73 : decode cB_pin 73 = .ok (.invokespecial 68, 3) := by decide +kernel
theorem dB_pin_76 : decode cB_pin 76 = .ok (.athrow, 1) := by decide +kernel
theorem dB_pin_77 : decode cB_pin 77 = .ok (.aload_n 0, 1) := by decide +kernel
theorem dB_pin_78 : decode cB_pin 78 = .ok (.invokevirtual 69, 3) := by decide +kernel
theorem dB_pin_81 : decode cB_pin 81 = .ok (.istore_n 3, 1) := by decide +kernel
theorem dB_pin_82 : decode cB_pin 82 = .ok (.aload_n 0, 1) := by decide +kernel
theorem dB_pin_83 : decode cB_pin 83 = .ok (.getfield 25, 3) := by decide +kernel
theorem dB_pin_86 : decode cB_pin 86 = .ok (.iload_n 3, 1) := by decide +kernel
theorem dB_pin_87 : decode cB_pin 87 = .ok (.aaload, 1) := by decide +kernel
theorem dB_pin_88 : decode cB_pin 88 = .ok (.iload_n 1, 1) := by decide +kernel
theorem dB_pin_89 : decode cB_pin 89 = .ok (.invokevirtual 73, 3) := by decide +kernel
theorem dB_pin_92 : decode cB_pin 92 = .ok (.aload_n 0, 1) := by decide +kernel
theorem dB_pin_93 : decode cB_pin 93 = .ok (.getfield 12, 3) := by decide +kernel
theorem dB_pin_96 : decode cB_pin 96 = .ok (.iload_n 1, 1) := by decide +kernel
theorem dB_pin_97 : decode cB_pin 97 = .ok (.aload_n 0, 1) := by decide +kernel
theorem dB_pin_98 : decode cB_pin 98 = .ok (.getfield 25, 3) := by decide +kernel
theorem dB_pin_101 : decode cB_pin 101 = .ok (.iload_n 3, 1) := by decide +kernel
theorem dB_pin_102 : decode cB_pin 102 = .ok (.aaload, 1) := by decide +kernel
theorem dB_pin_103 : decode cB_pin 103 = .ok (.getfield 77, 3) := by decide +kernel
theorem dB_pin_106 : decode cB_pin 106 = .ok (.invokevirtual 81, 3) := by decide +kernel
theorem dB_pin_109 : decode cB_pin 109 = .ok (.iload_n 3, 1) := by decide +kernel
theorem dB_pin_110 : decode cB_pin 110 = .ok (.ireturn, 1) := by decide +kernel
theorem dB_remake_0 : decode cB_remake 0 = .ok (.iload_n 1, 1) := by decide +kernel
theorem dB_remake_1 : decode cB_remake 1 = .ok (.invokestatic 34, 3) := by decide +kernel
theorem dB_remake_4 : decode cB_remake 4 = .ok (.ifCond .ne 13, 3) := by decide +kernel
theorem dB_remake_7 : decode cB_remake 7 = .ok (.new 38, 3) := by decide +kernel
theorem dB_remake_10 : decode cB_remake 10 = .ok (.dup, 1) := by decide +kernel
theorem dB_remake_11 : decode cB_remake 11 = .ok (.ldc 40, 2) := by decide +kernel
theorem dB_remake_13 : decode cB_remake 13 = .ok (.invokespecial 42, 3) := by decide +kernel
theorem dB_remake_16 : decode cB_remake 16 = .ok (.athrow, 1) := by decide +kernel
theorem dB_remake_17 : decode cB_remake 17 = .ok (.aload_n 0, 1) := by decide +kernel
theorem dB_remake_18 : decode cB_remake 18 = .ok (.iload_n 1, 1) := by decide +kernel
theorem dB_remake_19 : decode cB_remake 19 = .ok (.invokevirtual 45, 3) := by decide +kernel
theorem dB_remake_22 : decode cB_remake 22 = .ok (.iconst (-1), 1) := by decide +kernel
theorem dB_remake_23 : decode cB_remake 23 = .ok (.if_icmp .eq 13, 3) := by decide +kernel
theorem dB_remake_26 : decode cB_remake 26 = .ok (.new 56, 3) := by decide +kernel
theorem dB_remake_29 : decode cB_remake 29 = .ok (.dup, 1) := by decide +kernel
theorem dB_remake_30 : decode cB_remake 30 = .ok (.ldc 85, 2) := by decide +kernel
theorem dB_remake_32 : decode cB_remake 32 = .ok (.invokespecial 60, 3) := by decide +kernel
theorem dB_remake_35 : decode cB_remake 35 = .ok (.athrow, 1) := by decide +kernel
theorem dB_remake_36 : decode cB_remake 36 = .ok (.aload_n 0, 1) := by decide +kernel
theorem dB_remake_37 : decode cB_remake 37 = .ok (.invokevirtual 52, 3) := by decide +kernel
theorem dB_remake_40 : decode cB_remake 40 = .ok (.ifCond .eq 13, 3) := by decide +kernel
theorem dB_remake_43 : decode cB_remake 43 = .ok (.new 56, 3) := by decide +kernel
theorem dB_remake_46 : decode cB_remake 46 = .ok (.dup, 1) := by decide +kernel
theorem dB_remake_47 : decode cB_remake 47 = .ok (.ldc 58, 2) := by decide +kernel
theorem dB_remake_49 : decode cB_remake 49 = .ok (.invokespecial 60, 3) := by decide +kernel
theorem dB_remake_52 : decode cB_remake 52 = .ok (.athrow, 1) := by decide +kernel
theorem dB_remake_53 : decode cB_remake 53 = .ok (.aload_n 0, 1) := by decide +kernel
theorem dB_remake_54 : decode cB_remake 54 = .ok (.invokevirtual 69, 3) := by decide +kernel
theorem dB_remake_57 : decode cB_remake 57 = .ok (.istore_n 2, 1) := by decide +kernel
theorem dB_remake_58 : decode cB_remake 58 = .ok (.aload_n 0, 1) := by decide +kernel
theorem dB_remake_59 : decode cB_remake 59 = .ok (.getfield 25, 3) := by decide +kernel
theorem dB_remake_62 : decode cB_remake 62 = .ok (.iload_n 2, 1) := by decide +kernel
theorem dB_remake_63 : decode cB_remake 63 = .ok (.aaload, 1) := by decide +kernel
theorem dB_remake_64 : decode cB_remake 64 = .ok (.iload_n 1, 1) := by decide +kernel
theorem dB_remake_65 : decode cB_remake 65 = .ok (.invokevirtual 73, 3) := by decide +kernel
theorem dB_remake_68 : decode cB_remake 68 = .ok (.aload_n 0, 1) := by decide +kernel
theorem dB_remake_69 : decode cB_remake 69 = .ok (.getfield 25, 3) := by decide +kernel
theorem dB_remake_72 : decode cB_remake 72 = .ok (.iload_n 2, 1) := by decide +kernel
theorem dB_remake_73 : decode cB_remake 73 = .ok (.aaload, 1) := by decide +kernel
theorem dB_remake_74 : decode cB_remake 74 = .ok (.aload_n 0, 1) := by decide +kernel
theorem dB_remake_75 : decode cB_remake 75 = .ok (.getfield 12, 3) := by decide +kernel
theorem dB_remake_78 : decode cB_remake 78 = .ok (.iload_n 1, 1) := by decide +kernel
theorem dB_remake_79 : decode cB_remake 79 = .ok (.invokevirtual 87, 3) := by decide +kernel
theorem dB_remake_82 : decode cB_remake 82 = .ok (.invokevirtual 90, 3) := by decide +kernel
theorem dB_remake_85 : decode cB_remake 85 = .ok (.iload_n 2, 1) := by decide +kernel
theorem dB_remake_86 : decode cB_remake 86 = .ok (.ireturn, 1) := by decide +kernel
theorem dB_unpin_0 : decode cB_unpin 0 = .ok (.iload_n 1, 1) := by decide +kernel
theorem dB_unpin_1 : decode cB_unpin 1 = .ok (.invokestatic 93, 3) := by decide +kernel
theorem dB_unpin_4 : decode cB_unpin 4 = .ok (.ifCond .eq 15, 3) := by decide +kernel
theorem dB_unpin_7 : decode cB_unpin 7 = .ok (.aload_n 0, 1) := by decide +kernel
theorem dB_unpin_8 : decode cB_unpin 8 = .ok (.getfield 25, 3) := by decide +kernel
theorem dB_unpin_11 : decode cB_unpin 11 = .ok (.iload_n 1, 1) := by decide +kernel
theorem dB_unpin_12 : decode cB_unpin 12 = .ok (.aaload, 1) := by decide +kernel
theorem dB_unpin_13 : decode cB_unpin 13 = .ok (.invokevirtual 96, 3) := by decide +kernel
theorem dB_unpin_16 : decode cB_unpin 16 = .ok (.ifCond .ne 5, 3) := by decide +kernel
theorem dB_unpin_19 : decode cB_unpin 19 = .ok (.iconst 0, 1) := by decide +kernel
theorem dB_unpin_20 : decode cB_unpin 20 = .ok (.ireturn, 1) := by decide +kernel
theorem dB_unpin_21 : decode cB_unpin 21 = .ok (.aload_n 0, 1) := by decide +kernel
theorem dB_unpin_22 : decode cB_unpin 22 = .ok (.getfield 25, 3) := by decide +kernel
theorem dB_unpin_25 : decode cB_unpin 25 = .ok (.iload_n 1, 1) := by decide +kernel
theorem dB_unpin_26 : decode cB_unpin 26 = .ok (.aaload, 1) := by decide +kernel
theorem dB_unpin_27 : decode cB_unpin 27 = .ok (.invokevirtual 99, 3) := by decide +kernel
theorem dB_unpin_30 : decode cB_unpin 30 = .ok (.iconst 1, 1) := by decide +kernel
theorem dB_unpin_31 : decode cB_unpin 31 = .ok (.ireturn, 1) := by decide +kernel
theorem dB_get_0 : decode cB_get 0 = .ok (.iload_n 1, 1) := by decide +kernel
theorem dB_get_1 : decode cB_get 1 = .ok (.invokestatic 93, 3) := by decide +kernel
theorem dB_get_4 : decode cB_get 4 = .ok (.ifCond .eq 22, 3) := by decide +kernel
theorem dB_get_7 : decode cB_get 7 = .ok (.iload_n 2, 1) := by decide +kernel
theorem dB_get_8 : decode cB_get 8 = .ok (.invokestatic 102, 3) := by decide +kernel
theorem dB_get_11 : decode cB_get 11 = .ok (.ifCond .eq 15, 3) := by decide +kernel
theorem dB_get_14 : decode cB_get 14 = .ok (.aload_n 0, 1) := by decide +kernel
theorem dB_get_15 : decode cB_get 15 = .ok (.getfield 25, 3) := by decide +kernel
theorem dB_get_18 : decode cB_get 18 = .ok (.iload_n 1, 1) := by decide +kernel
theorem dB_get_19 : decode cB_get 19 = .ok (.aaload, 1) := by decide +kernel
theorem dB_get_20 : decode cB_get 20 = .ok (.invokevirtual 105, 3) := by decide +kernel
theorem dB_get_23 : decode cB_get 23 = .ok (.ifCond .eq 5, 3) := by decide +kernel
theorem dB_get_26 : decode cB_get 26 = .ok (.iconst (-1), 1) := by decide +kernel
theorem dB_get_27 : decode cB_get 27 = .ok (.ireturn, 1) := by decide +kernel
theorem dB_get_28 : decode cB_get 28 = .ok (.aload_n 0, 1) := by decide +kernel
theorem dB_get_29 : decode cB_get 29 = .ok (.getfield 25, 3) := by decide +kernel
theorem dB_get_32 : decode cB_get 32 = .ok (.iload_n 1, 1) := by decide +kernel
theorem dB_get_33 : decode cB_get 33 = .ok (.aaload, 1) := by decide +kernel
theorem dB_get_34 : decode cB_get 34 = .ok (.getfield 77, 3) := by decide +kernel
theorem dB_get_37 : decode cB_get 37 = .ok (.iload_n 2, 1) := by decide +kernel
theorem dB_get_38 : decode cB_get 38 = .ok (.baload, 1) := by decide +kernel
theorem dB_get_39 : decode cB_get 39 = .ok (.sipush 255, 3) := by decide +kernel
theorem dB_get_42 : decode cB_get 42 = .ok (.iand, 1) := by decide +kernel
theorem dB_get_43 : decode cB_get 43 = .ok (.ireturn, 1) := by decide +kernel
theorem dB_set_0 : decode cB_set 0 = .ok (.iload_n 1, 1) := by decide +kernel
theorem dB_set_1 : decode cB_set 1 = .ok (.invokestatic 93, 3) := by decide +kernel
theorem dB_set_4 : decode cB_set 4 = .ok (.ifCond .eq 16, 3) := by decide +kernel
theorem dB_set_7 : decode cB_set 7 = .ok (.iload_n 2, 1) := by decide +kernel
theorem dB_set_8 : decode cB_set 8 = .ok (.bipush 6, 2) := by decide +kernel
theorem dB_set_10 : decode cB_set 10 = .ok (.if_icmp .lt 10, 3) := by decide +kernel
theorem dB_set_13 : decode cB_set 13 = .ok (.iload_n 2, 1) := by decide +kernel
theorem dB_set_14 : decode cB_set 14 = .ok (.sipush 509, 3) := by decide +kernel
theorem dB_set_17 : decode cB_set 17 = .ok (.if_icmp .le 5, 3) := by decide +kernel
theorem dB_set_20 : decode cB_set 20 = .ok (.iconst 0, 1) := by decide +kernel
theorem dB_set_21 : decode cB_set 21 = .ok (.ireturn, 1) := by decide +kernel
theorem dB_set_22 : decode cB_set 22 = .ok (.aload_n 0, 1) := by decide +kernel
theorem dB_set_23 : decode cB_set 23 = .ok (.getfield 25, 3) := by decide +kernel
theorem dB_set_26 : decode cB_set 26 = .ok (.iload_n 1, 1) := by decide +kernel
theorem dB_set_27 : decode cB_set 27 = .ok (.aaload, 1) := by decide +kernel
theorem dB_set_28 : decode cB_set 28 = .ok (.invokevirtual 96, 3) := by decide +kernel
theorem dB_set_31 : decode cB_set 31 = .ok (.ifCond .eq 17, 3) := by decide +kernel
theorem dB_set_34 : decode cB_set 34 = .ok (.iload 4, 2) := by decide +kernel
theorem dB_set_36 : decode cB_set 36 = .ok (.aload_n 0, 1) := by decide +kernel
theorem dB_set_37 : decode cB_set 37 = .ok (.getfield 25, 3) := by decide +kernel
theorem dB_set_40 : decode cB_set 40 = .ok (.iload_n 1, 1) := by decide +kernel
theorem dB_set_41 : decode cB_set 41 = .ok (.aaload, 1) := by decide +kernel
theorem dB_set_42 : decode cB_set 42 = .ok (.invokevirtual 108, 3) := by decide +kernel
theorem dB_set_45 : decode cB_set 45 = .ok (.if_icmp .ge 5, 3) := by decide +kernel
theorem dB_set_48 : decode cB_set 48 = .ok (.iconst 0, 1) := by decide +kernel
theorem dB_set_49 : decode cB_set 49 = .ok (.ireturn, 1) := by decide +kernel
theorem dB_set_50 : decode cB_set 50 = .ok (.aload_n 0, 1) := by decide +kernel
theorem dB_set_51 : decode cB_set 51 = .ok (.getfield 25, 3) := by decide +kernel
theorem dB_set_54 : decode cB_set 54 = .ok (.iload_n 1, 1) := by decide +kernel
theorem dB_set_55 : decode cB_set 55 = .ok (.aaload, 1) := by decide +kernel
theorem dB_set_56 : decode cB_set 56 = .ok (.iload_n 2, 1) := by decide +kernel
theorem dB_set_57 : decode cB_set 57 = .ok (.iload_n 3, 1) := by decide +kernel
theorem dB_set_58 : decode cB_set 58 = .ok (.iload 4, 2) := by decide +kernel
theorem dB_set_60 : decode cB_set 60 = .ok (.invokevirtual 111, 3) := by decide +kernel
theorem dB_set_63 : decode cB_set 63 = .ok (.iconst 1, 1) := by decide +kernel
theorem dB_set_64 : decode cB_set 64 = .ok (.ireturn, 1) := by decide +kernel
theorem dB_clean_0 : decode cB_clean 0 = .ok (.iload_n 1, 1) := by decide +kernel
theorem dB_clean_1 : decode cB_clean 1 = .ok (.iconst 1, 1) := by decide +kernel
theorem dB_clean_2 : decode cB_clean 2 = .ok (.if_icmp .lt 9, 3) := by decide +kernel
theorem dB_clean_5 : decode cB_clean 5 = .ok (.iload_n 1, 1) := by decide +kernel
theorem dB_clean_6 : decode cB_clean 6 = .ok (.bipush 12, 2) := by decide +kernel
theorem dB_clean_8 : decode cB_clean 8 = .ok (.if_icmp .le 13, 3) := by decide +kernel
theorem dB_clean_11 : decode cB_clean 11 = .ok (.new 38, 3) := by decide +kernel
theorem dB_clean_14 : decode cB_clean 14 = .ok (.dup, 1) := by decide +kernel
theorem dB_clean_15 : decode cB_clean 15 = .ok (.ldc 115, 2) := by decide +kernel
theorem dB_clean_17 : decode cB_clean 17 = .ok (.invokespecial 42, 3) := by decide +kernel
theorem dB_clean_20 : decode cB_clean 20 = .ok (.athrow, 1) := by decide +kernel
theorem dB_clean_21 : decode cB_clean 21 = .ok (.iconst 0, 1) := by decide +kernel
theorem dB_clean_22 : decode cB_clean 22 = .ok (.istore_n 2, 1) := by decide +kernel
theorem dB_clean_23 : decode cB_clean 23 = .ok (.aload_n 0, 1) := by decide +kernel
theorem dB_clean_24 : decode cB_clean 24 = .ok (.getfield 30, 3) := by decide +kernel
theorem dB_clean_27 : decode cB_clean 27 = .ok (.istore_n 3, 1) := by decide +kernel
theorem dB_clean_28 : decode cB_clean 28 = .ok (.iconst 0, 1) := by decide +kernel
theorem dB_clean_29 : decode cB_clean 29 = .ok (.istore 4, 2) := by decide +kernel
theorem dB_clean_31 : decode cB_clean 31 = .ok (.iload 4, 2) := by decide +kernel
theorem dB_clean_33 : decode cB_clean 33 = .ok (.bipush 12, 2) := by decide +kernel
theorem dB_clean_35 : decode cB_clean 35 = .ok (.if_icmp .ge 56, 3) := by decide +kernel
theorem dB_clean_38 : decode cB_clean 38 = .ok (.iload_n 2, 1) := by decide +kernel
theorem dB_clean_39 : decode cB_clean 39 = .ok (.iload_n 1, 1) := by decide +kernel
theorem dB_clean_40 : decode cB_clean 40 = .ok (.if_icmp .ge 51, 3) := by decide +kernel
theorem dB_clean_43 : decode cB_clean 43 = .ok (.aload_n 0, 1) := by decide +kernel
theorem dB_clean_44 : decode cB_clean 44 = .ok (.getfield 25, 3) := by decide +kernel
theorem dB_clean_47 : decode cB_clean 47 = .ok (.iload_n 3, 1) := by decide +kernel
theorem dB_clean_48 : decode cB_clean 48 = .ok (.aaload, 1) := by decide +kernel
theorem dB_clean_49 : decode cB_clean 49 = .ok (.getfield 117, 3) := by decide +kernel
theorem dB_clean_52 : decode cB_clean 52 = .ok (.ifCond .eq 28, 3) := by decide +kernel
theorem dB_clean_55 : decode cB_clean 55 = .ok (.aload_n 0, 1) := by decide +kernel
theorem dB_clean_56 : decode cB_clean 56 = .ok (.getfield 25, 3) := by decide +kernel
theorem dB_clean_59 : decode cB_clean 59 = .ok (.iload_n 3, 1) := by decide +kernel
theorem dB_clean_60 : decode cB_clean 60 = .ok (.aaload, 1) := by decide +kernel
theorem dB_clean_61 : decode cB_clean 61 = .ok (.invokevirtual 96, 3) := by decide +kernel
theorem dB_clean_64 : decode cB_clean 64 = .ok (.ifCond .ne 16, 3) := by decide +kernel
theorem dB_clean_67 : decode cB_clean 67 = .ok (.aload_n 0, 1) := by decide +kernel
theorem dB_clean_68 : decode cB_clean 68 = .ok (.aload_n 0, 1) := by decide +kernel
theorem dB_clean_69 : decode cB_clean 69 = .ok (.getfield 25, 3) := by decide +kernel
theorem dB_clean_72 : decode cB_clean 72 = .ok (.iload_n 3, 1) := by decide +kernel
theorem dB_clean_73 : decode cB_clean 73 = .ok (.aaload, 1) := by decide +kernel
theorem dB_clean_74 : decode cB_clean 74 = .ok (.invokevirtual 121, 3) := by decide +kernel
theorem dB_clean_77 : decode cB_clean 77 = .ok (.iinc 2 1, 3) := by decide +kernel
theorem dB_clean_80 : decode cB_clean 80 = .ok (.iload_n 3, 1) := by decide +kernel
theorem dB_clean_81 : decode cB_clean 81 = .ok (.invokestatic 125, 3) := by decide +kernel
theorem dB_clean_84 : decode cB_clean 84 = .ok (.istore_n 3, 1) := by decide +kernel
theorem dB_clean_85 : decode cB_clean 85 = .ok (.iinc 4 1, 3) := by decide +kernel
theorem dB_clean_88 : decode cB_clean 88 = .ok (.goto (-57), 3) := by decide +kernel
theorem dB_clean_91 : decode cB_clean 91 = .ok (.iload_n 2, 1) := by decide +kernel
theorem dB_clean_92 : decode cB_clean 92 = .ok (.ireturn, 1) := by decide +kernel
theorem dB_sweep_0 : decode cB_sweep 0 = .ok (.iconst 0, 1) := by decide +kernel
theorem dB_sweep_1 : decode cB_sweep 1 = .ok (.istore_n 1, 1) := by decide +kernel
theorem dB_sweep_2 : decode cB_sweep 2 = .ok (.aload_n 0, 1) := by decide +kernel
theorem dB_sweep_3 : decode cB_sweep 3 = .ok (.invokevirtual 128, 3) := by decide +kernel
theorem dB_sweep_6 : decode cB_sweep 6 = .ok (.istore_n 2, 1) := by decide +kernel
theorem dB_sweep_7 : decode cB_sweep 7 = .ok (.iload_n 2, 1) := by decide +kernel
theorem dB_sweep_8 : decode cB_sweep 8 = .ok (.iconst (-1), 1) := by decide +kernel
theorem dB_sweep_9 : decode cB_sweep 9 = .ok (.if_icmp .eq 30, 3) := by decide +kernel
theorem dB_sweep_12 : decode cB_sweep 12 = .ok (.iload_n 1, 1) := by decide +kernel
theorem dB_sweep_13 : decode cB_sweep 13 = .ok (.bipush 12, 2) := by decide +kernel
theorem dB_sweep_15 : decode cB_sweep 15 = .ok (.if_icmp .ge 24, 3) := by decide +kernel
theorem dB_sweep_18 : decode cB_sweep 18 = .ok (.aload_n 0, 1) := by decide +kernel
theorem dB_sweep_19 : decode cB_sweep 19 = .ok (.aload_n 0, 1) := by decide +kernel
theorem dB_sweep_20 : decode cB_sweep 20 = .ok (.getfield 25, 3) := by decide +kernel
theorem dB_sweep_23 : decode cB_sweep 23 = .ok (.iload_n 2, 1) := by decide +kernel
theorem dB_sweep_24 : decode cB_sweep 24 = .ok (.aaload, 1) := by decide +kernel
theorem dB_sweep_25 : decode cB_sweep 25 = .ok (.invokevirtual 121, 3) := by decide +kernel
theorem dB_sweep_28 : decode cB_sweep 28 = .ok (.iinc 1 1, 3) := by decide +kernel
theorem dB_sweep_31 : decode cB_sweep 31 = .ok (.aload_n 0, 1) := by decide +kernel
theorem dB_sweep_32 : decode cB_sweep 32 = .ok (.invokevirtual 128, 3) := by decide +kernel
theorem dB_sweep_35 : decode cB_sweep 35 = .ok (.istore_n 2, 1) := by decide +kernel
theorem dB_sweep_36 : decode cB_sweep 36 = .ok (.goto (-29), 3) := by decide +kernel
theorem dB_sweep_39 : decode cB_sweep 39 = .ok (.iload_n 1, 1) := by decide +kernel
theorem dB_sweep_40 : decode cB_sweep 40 = .ok (.ireturn, 1) := by decide +kernel
theorem dB_charge_0 : decode cB_charge 0 = .ok (.iload_n 1, 1) := by decide +kernel
theorem dB_charge_1 : decode cB_charge 1 = .ok (.ifCond .lt 10, 3) := by decide +kernel
theorem dB_charge_4 : decode cB_charge 4 = .ok (.iload_n 1, 1) := by decide +kernel
theorem dB_charge_5 : decode cB_charge 5 = .ok (.sipush 999, 3) := by decide +kernel
theorem dB_charge_8 : decode cB_charge 8 = .ok (.if_icmp .le 13, 3) := by decide +kernel
theorem dB_charge_11 : decode cB_charge 11 = .ok (.new 38, 3) := by decide +kernel
theorem dB_charge_14 : decode cB_charge 14 = .ok (.dup, 1) := by decide +kernel
theorem dB_charge_15 : decode cB_charge 15 = .ok (.ldc 131, 2) := by decide +kernel
theorem dB_charge_17 : decode cB_charge 17 = .ok (.invokespecial 42, 3) := by decide +kernel
theorem dB_charge_20 : decode cB_charge 20 = .ok (.athrow, 1) := by decide +kernel
theorem dB_charge_21 : decode cB_charge 21 = .ok (.aload_n 0, 1) := by decide +kernel
theorem dB_charge_22 : decode cB_charge 22 = .ok (.getfield 12, 3) := by decide +kernel
theorem dB_charge_25 : decode cB_charge 25 = .ok (.iload_n 1, 1) := by decide +kernel
theorem dB_charge_26 : decode cB_charge 26 = .ok (.putfield 133, 3) := by decide +kernel
theorem dB_charge_29 : decode cB_charge 29 = .ok (.return_, 1) := by decide +kernel
theorem dB_flushed_0 : decode cB_flushed 0 = .ok (.aload_n 0, 1) := by decide +kernel
theorem dB_flushed_1 : decode cB_flushed 1 = .ok (.getfield 19, 3) := by decide +kernel
theorem dB_flushed_4 : decode cB_flushed 4 = .ok (.iload_n 1, 1) := by decide +kernel
theorem dB_flushed_5 : decode cB_flushed 5 = .ok (.invokevirtual 136, 3) := by decide +kernel
theorem dB_flushed_8 : decode cB_flushed 8 = .ok (.ireturn, 1) := by decide +kernel
theorem dB_look_0 : decode cB_look 0 = .ok (.iload_n 1, 1) := by decide +kernel
theorem dB_look_1 : decode cB_look 1 = .ok (.invokestatic 93, 3) := by decide +kernel
theorem dB_look_4 : decode cB_look 4 = .ok (.ifCond .eq 15, 3) := by decide +kernel
theorem dB_look_7 : decode cB_look 7 = .ok (.aload_n 0, 1) := by decide +kernel
theorem dB_look_8 : decode cB_look 8 = .ok (.getfield 25, 3) := by decide +kernel
theorem dB_look_11 : decode cB_look 11 = .ok (.iload_n 1, 1) := by decide +kernel
theorem dB_look_12 : decode cB_look 12 = .ok (.aaload, 1) := by decide +kernel
theorem dB_look_13 : decode cB_look 13 = .ok (.invokevirtual 105, 3) := by decide +kernel
theorem dB_look_16 : decode cB_look 16 = .ok (.ifCond .eq 5, 3) := by decide +kernel
theorem dB_look_19 : decode cB_look 19 = .ok (.iconst (-1), 1) := by decide +kernel
theorem dB_look_20 : decode cB_look 20 = .ok (.ireturn, 1) := by decide +kernel
theorem dB_look_21 : decode cB_look 21 = .ok (.iload_n 2, 1) := by decide +kernel
theorem dB_look_22 : decode cB_look 22 = .ok (.tableswitch 92 0 4 #[34, 44, 54, 64, 82], 34) := by decide +kernel
theorem dB_look_56 : decode cB_look 56 = .ok (.aload_n 0, 1) := by decide +kernel
theorem dB_look_57 : decode cB_look 57 = .ok (.getfield 25, 3) := by decide +kernel
theorem dB_look_60 : decode cB_look 60 = .ok (.iload_n 1, 1) := by decide +kernel
theorem dB_look_61 : decode cB_look 61 = .ok (.aaload, 1) := by decide +kernel
theorem dB_look_62 : decode cB_look 62 = .ok (.getfield 139, 3) := by decide +kernel
theorem dB_look_65 : decode cB_look 65 = .ok (.ireturn, 1) := by decide +kernel
theorem dB_look_66 : decode cB_look 66 = .ok (.aload_n 0, 1) := by decide +kernel
theorem dB_look_67 : decode cB_look 67 = .ok (.getfield 25, 3) := by decide +kernel
theorem dB_look_70 : decode cB_look 70 = .ok (.iload_n 1, 1) := by decide +kernel
theorem dB_look_71 : decode cB_look 71 = .ok (.aaload, 1) := by decide +kernel
theorem dB_look_72 : decode cB_look 72 = .ok (.getfield 142, 3) := by decide +kernel
theorem dB_look_75 : decode cB_look 75 = .ok (.ireturn, 1) := by decide +kernel
theorem dB_look_76 : decode cB_look 76 = .ok (.aload_n 0, 1) := by decide +kernel
theorem dB_look_77 : decode cB_look 77 = .ok (.getfield 25, 3) := by decide +kernel
theorem dB_look_80 : decode cB_look 80 = .ok (.iload_n 1, 1) := by decide +kernel
theorem dB_look_81 : decode cB_look 81 = .ok (.aaload, 1) := by decide +kernel
theorem dB_look_82 : decode cB_look 82 = .ok (.getfield 145, 3) := by decide +kernel
theorem dB_look_85 : decode cB_look 85 = .ok (.ireturn, 1) := by decide +kernel
theorem dB_look_86 : decode cB_look 86 = .ok (.aload_n 0, 1) := by decide +kernel
theorem dB_look_87 : decode cB_look 87 = .ok (.getfield 25, 3) := by decide +kernel
theorem dB_look_90 : decode cB_look 90 = .ok (.iload_n 1, 1) := by decide +kernel
theorem dB_look_91 : decode cB_look 91 = .ok (.aaload, 1) := by decide +kernel
theorem dB_look_92 : decode cB_look 92 = .ok (.getfield 117, 3) := by decide +kernel
theorem dB_look_95 : decode cB_look 95 = .ok (.ifCond .eq 7, 3) := by decide +kernel
theorem dB_look_98 : decode cB_look 98 = .ok (.iconst 1, 1) := by decide +kernel
theorem dB_look_99 : decode cB_look 99 = .ok (.goto 4, 3) := by decide +kernel
theorem dB_look_102 : decode cB_look 102 = .ok (.iconst 0, 1) := by decide +kernel
theorem dB_look_103 : decode cB_look 103 = .ok (.ireturn, 1) := by decide +kernel
theorem dB_look_104 : decode cB_look 104 = .ok (.aload_n 0, 1) := by decide +kernel
theorem dB_look_105 : decode cB_look 105 = .ok (.getfield 25, 3) := by decide +kernel
theorem dB_look_108 : decode cB_look 108 = .ok (.iload_n 1, 1) := by decide +kernel
theorem dB_look_109 : decode cB_look 109 = .ok (.aaload, 1) := by decide +kernel
theorem dB_look_110 : decode cB_look 110 = .ok (.invokevirtual 108, 3) := by decide +kernel
theorem dB_look_113 : decode cB_look 113 = .ok (.ireturn, 1) := by decide +kernel
theorem dB_look_114 : decode cB_look 114 = .ok (.iconst (-1), 1) := by decide +kernel
theorem dB_look_115 : decode cB_look 115 = .ok (.ireturn, 1) := by decide +kernel
theorem dB_disk_0 : decode cB_disk 0 = .ok (.iload_n 1, 1) := by decide +kernel
theorem dB_disk_1 : decode cB_disk 1 = .ok (.invokestatic 34, 3) := by decide +kernel
theorem dB_disk_4 : decode cB_disk 4 = .ok (.ifCond .eq 10, 3) := by decide +kernel
theorem dB_disk_7 : decode cB_disk 7 = .ok (.iload_n 2, 1) := by decide +kernel
theorem dB_disk_8 : decode cB_disk 8 = .ok (.invokestatic 102, 3) := by decide +kernel
theorem dB_disk_11 : decode cB_disk 11 = .ok (.ifCond .ne 5, 3) := by decide +kernel
theorem dB_disk_14 : decode cB_disk 14 = .ok (.iconst (-1), 1) := by decide +kernel
theorem dB_disk_15 : decode cB_disk 15 = .ok (.ireturn, 1) := by decide +kernel
theorem dB_disk_16 : decode cB_disk 16 = .ok (.aload_n 0, 1) := by decide +kernel
theorem dB_disk_17 : decode cB_disk 17 = .ok (.getfield 12, 3) := by decide +kernel
theorem dB_disk_20 : decode cB_disk 20 = .ok (.iload_n 1, 1) := by decide +kernel
theorem dB_disk_21 : decode cB_disk 21 = .ok (.iload_n 2, 1) := by decide +kernel
theorem dB_disk_22 : decode cB_disk 22 = .ok (.invokevirtual 148, 3) := by decide +kernel
theorem dB_disk_25 : decode cB_disk 25 = .ok (.ireturn, 1) := by decide +kernel
theorem dB_torn_0 : decode cB_torn 0 = .ok (.iload_n 1, 1) := by decide +kernel
theorem dB_torn_1 : decode cB_torn 1 = .ok (.invokestatic 34, 3) := by decide +kernel
theorem dB_torn_4 : decode cB_torn 4 = .ok (.ifCond .eq 18, 3) := by decide +kernel
theorem dB_torn_7 : decode cB_torn 7 = .ok (.aload_n 0, 1) := by decide +kernel
theorem dB_torn_8 : decode cB_torn 8 = .ok (.getfield 12, 3) := by decide +kernel
theorem dB_torn_11 : decode cB_torn 11 = .ok (.iload_n 1, 1) := by decide +kernel
theorem dB_torn_12 : decode cB_torn 12 = .ok (.invokevirtual 61, 3) := by decide +kernel
theorem dB_torn_15 : decode cB_torn 15 = .ok (.ifCond .eq 7, 3) := by decide +kernel
theorem dB_torn_18 : decode cB_torn 18 = .ok (.iconst 1, 1) := by decide +kernel
theorem dB_torn_19 : decode cB_torn 19 = .ok (.goto 4, 3) := by decide +kernel
theorem dB_torn_22 : decode cB_torn 22 = .ok (.iconst 0, 1) := by decide +kernel
theorem dB_torn_23 : decode cB_torn 23 = .ok (.ireturn, 1) := by decide +kernel
theorem dB_count_0 : decode cB_count 0 = .ok (.iload_n 1, 1) := by decide +kernel
theorem dB_count_1 : decode cB_count 1 = .ok (.tableswitch 81 0 5 #[39, 44, 52, 60, 68, 76], 39) := by decide +kernel
theorem dB_count_40 : decode cB_count 40 = .ok (.aload_n 0, 1) := by decide +kernel
theorem dB_count_41 : decode cB_count 41 = .ok (.getfield 30, 3) := by decide +kernel
theorem dB_count_44 : decode cB_count 44 = .ok (.ireturn, 1) := by decide +kernel
theorem dB_count_45 : decode cB_count 45 = .ok (.aload_n 0, 1) := by decide +kernel
theorem dB_count_46 : decode cB_count 46 = .ok (.getfield 12, 3) := by decide +kernel
theorem dB_count_49 : decode cB_count 49 = .ok (.getfield 152, 3) := by decide +kernel
theorem dB_count_52 : decode cB_count 52 = .ok (.ireturn, 1) := by decide +kernel
theorem dB_count_53 : decode cB_count 53 = .ok (.aload_n 0, 1) := by decide +kernel
theorem dB_count_54 : decode cB_count 54 = .ok (.getfield 12, 3) := by decide +kernel
theorem dB_count_57 : decode cB_count 57 = .ok (.getfield 155, 3) := by decide +kernel
theorem dB_count_60 : decode cB_count 60 = .ok (.ireturn, 1) := by decide +kernel
theorem dB_count_61 : decode cB_count 61 = .ok (.aload_n 0, 1) := by decide +kernel
theorem dB_count_62 : decode cB_count 62 = .ok (.getfield 19, 3) := by decide +kernel
theorem dB_count_65 : decode cB_count 65 = .ok (.getfield 158, 3) := by decide +kernel
theorem dB_count_68 : decode cB_count 68 = .ok (.ireturn, 1) := by decide +kernel
theorem dB_count_69 : decode cB_count 69 = .ok (.aload_n 0, 1) := by decide +kernel
theorem dB_count_70 : decode cB_count 70 = .ok (.getfield 19, 3) := by decide +kernel
theorem dB_count_73 : decode cB_count 73 = .ok (.getfield 161, 3) := by decide +kernel
theorem dB_count_76 : decode cB_count 76 = .ok (.ireturn, 1) := by decide +kernel
theorem dB_count_77 : decode cB_count 77 = .ok (.aload_n 0, 1) := by decide +kernel
theorem dB_count_78 : decode cB_count 78 = .ok (.invokevirtual 164, 3) := by decide +kernel
theorem dB_count_81 : decode cB_count 81 = .ok (.ireturn, 1) := by decide +kernel
theorem dB_count_82 : decode cB_count 82 = .ok (.iconst (-1), 1) := by decide +kernel
theorem dB_count_83 : decode cB_count 83 = .ok (.ireturn, 1) := by decide +kernel
theorem dB_isPage_0 : decode cB_isPage 0 = .ok (.iload_n 0, 1) := by decide +kernel
theorem dB_isPage_1 : decode cB_isPage 1 = .ok (.ifCond .lt 14, 3) := by decide +kernel
theorem dB_isPage_4 : decode cB_isPage 4 = .ok (.iload_n 0, 1) := by decide +kernel
theorem dB_isPage_5 : decode cB_isPage 5 = .ok (.sipush 192, 3) := by decide +kernel
theorem dB_isPage_8 : decode cB_isPage 8 = .ok (.if_icmp .ge 7, 3) := by decide +kernel
theorem dB_isPage_11 : decode cB_isPage 11 = .ok (.iconst 1, 1) := by decide +kernel
theorem dB_isPage_12 : decode cB_isPage 12 = .ok (.goto 4, 3) := by decide +kernel
theorem dB_isPage_15 : decode cB_isPage 15 = .ok (.iconst 0, 1) := by decide +kernel
theorem dB_isPage_16 : decode cB_isPage 16 = .ok (.ireturn, 1) := by decide +kernel
theorem dB_isFrame_0 : decode cB_isFrame 0 = .ok (.iload_n 0, 1) := by decide +kernel
theorem dB_isFrame_1 : decode cB_isFrame 1 = .ok (.ifCond .lt 13, 3) := by decide +kernel
theorem dB_isFrame_4 : decode cB_isFrame 4 = .ok (.iload_n 0, 1) := by decide +kernel
theorem dB_isFrame_5 : decode cB_isFrame 5 = .ok (.bipush 12, 2) := by decide +kernel
theorem dB_isFrame_7 : decode cB_isFrame 7 = .ok (.if_icmp .ge 7, 3) := by decide +kernel
theorem dB_isFrame_10 : decode cB_isFrame 10 = .ok (.iconst 1, 1) := by decide +kernel
theorem dB_isFrame_11 : decode cB_isFrame 11 = .ok (.goto 4, 3) := by decide +kernel
theorem dB_isFrame_14 : decode cB_isFrame 14 = .ok (.iconst 0, 1) := by decide +kernel
theorem dB_isFrame_15 : decode cB_isFrame 15 = .ok (.ireturn, 1) := by decide +kernel
theorem dB_isByte_0 : decode cB_isByte 0 = .ok (.iload_n 0, 1) := by decide +kernel
theorem dB_isByte_1 : decode cB_isByte 1 = .ok (.ifCond .lt 14, 3) := by decide +kernel
theorem dB_isByte_4 : decode cB_isByte 4 = .ok (.iload_n 0, 1) := by decide +kernel
theorem dB_isByte_5 : decode cB_isByte 5 = .ok (.sipush 512, 3) := by decide +kernel
theorem dB_isByte_8 : decode cB_isByte 8 = .ok (.if_icmp .ge 7, 3) := by decide +kernel
theorem dB_isByte_11 : decode cB_isByte 11 = .ok (.iconst 1, 1) := by decide +kernel
theorem dB_isByte_12 : decode cB_isByte 12 = .ok (.goto 4, 3) := by decide +kernel
theorem dB_isByte_15 : decode cB_isByte 15 = .ok (.iconst 0, 1) := by decide +kernel
theorem dB_isByte_16 : decode cB_isByte 16 = .ok (.ireturn, 1) := by decide +kernel
theorem dB_frameBehind_0 : decode cB_frameBehind 0 = .ok (.iload_n 0, 1) := by decide +kernel
theorem dB_frameBehind_1 : decode cB_frameBehind 1 = .ok (.iconst 1, 1) := by decide +kernel
theorem dB_frameBehind_2 : decode cB_frameBehind 2 = .ok (.iadd, 1) := by decide +kernel
theorem dB_frameBehind_3 : decode cB_frameBehind 3 = .ok (.bipush 12, 2) := by decide +kernel
theorem dB_frameBehind_5 : decode cB_frameBehind 5 = .ok (.if_icmp .ge 9, 3) := by decide +kernel
theorem dB_frameBehind_8 : decode cB_frameBehind 8 = .ok (.iload_n 0, 1) := by decide +kernel
theorem dB_frameBehind_9 : decode cB_frameBehind 9 = .ok (.iconst 1, 1) := by decide +kernel
theorem dB_frameBehind_10 : decode cB_frameBehind 10 = .ok (.iadd, 1) := by decide +kernel
theorem dB_frameBehind_11 : decode cB_frameBehind 11 = .ok (.goto 4, 3) := by decide +kernel
theorem dB_frameBehind_14 : decode cB_frameBehind 14 = .ok (.iconst 0, 1) := by decide +kernel
theorem dB_frameBehind_15 : decode cB_frameBehind 15 = .ok (.ireturn, 1) := by decide +kernel
theorem dB_twoBytes_0 : decode cB_twoBytes 0 = .ok (.aload_n 0, 1) := by decide +kernel
theorem dB_twoBytes_1 : decode cB_twoBytes 1 = .ok (.iload_n 1, 1) := by decide +kernel
theorem dB_twoBytes_2 : decode cB_twoBytes 2 = .ok (.baload, 1) := by decide +kernel
theorem dB_twoBytes_3 : decode cB_twoBytes 3 = .ok (.sipush 255, 3) := by decide +kernel
theorem dB_twoBytes_6 : decode cB_twoBytes 6 = .ok (.iand, 1) := by decide +kernel
theorem dB_twoBytes_7 : decode cB_twoBytes 7 = .ok (.bipush 8, 2) := by decide +kernel
theorem dB_twoBytes_9 : decode cB_twoBytes 9 = .ok (.ishl, 1) := by decide +kernel
theorem dB_twoBytes_10 : decode cB_twoBytes 10 = .ok (.aload_n 0, 1) := by decide +kernel
theorem dB_twoBytes_11 : decode cB_twoBytes 11 = .ok (.iload_n 1, 1) := by decide +kernel
theorem dB_twoBytes_12 : decode cB_twoBytes 12 = .ok (.iconst 1, 1) := by decide +kernel
theorem dB_twoBytes_13 : decode cB_twoBytes 13 = .ok (.iadd, 1) := by decide +kernel
theorem dB_twoBytes_14 : decode cB_twoBytes 14 = .ok (.baload, 1) := by decide +kernel
theorem dB_twoBytes_15 : decode cB_twoBytes 15 = .ok (.sipush 255, 3) := by decide +kernel
theorem dB_twoBytes_18 : decode cB_twoBytes 18 = .ok (.iand, 1) := by decide +kernel
theorem dB_twoBytes_19 : decode cB_twoBytes 19 = .ok (.ior, 1) := by decide +kernel
theorem dB_twoBytes_20 : decode cB_twoBytes 20 = .ok (.ireturn, 1) := by decide +kernel
theorem dB_frameWith_0 : decode cB_frameWith 0 = .ok (.iconst 0, 1) := by decide +kernel
theorem dB_frameWith_1 : decode cB_frameWith 1 = .ok (.istore_n 2, 1) := by decide +kernel
theorem dB_frameWith_2 : decode cB_frameWith 2 = .ok (.iload_n 2, 1) := by decide +kernel
theorem dB_frameWith_3 : decode cB_frameWith 3 = .ok (.bipush 12, 2) := by decide +kernel
theorem dB_frameWith_5 : decode cB_frameWith 5 = .ok (.if_icmp .ge 24, 3) := by decide +kernel
theorem dB_frameWith_8 : decode cB_frameWith 8 = .ok (.aload_n 0, 1) := by decide +kernel
theorem dB_frameWith_9 : decode cB_frameWith 9 = .ok (.getfield 25, 3) := by decide +kernel
theorem dB_frameWith_12 : decode cB_frameWith 12 = .ok (.iload_n 2, 1) := by decide +kernel
theorem dB_frameWith_13 : decode cB_frameWith 13 = .ok (.aaload, 1) := by decide +kernel
theorem dB_frameWith_14 : decode cB_frameWith 14 = .ok (.getfield 139, 3) := by decide +kernel
theorem dB_frameWith_17 : decode cB_frameWith 17 = .ok (.iload_n 1, 1) := by decide +kernel
theorem dB_frameWith_18 : decode cB_frameWith 18 = .ok (.if_icmp .ne 5, 3) := by decide +kernel
theorem dB_frameWith_21 : decode cB_frameWith 21 = .ok (.iload_n 2, 1) := by decide +kernel
theorem dB_frameWith_22 : decode cB_frameWith 22 = .ok (.ireturn, 1) := by decide +kernel
theorem dB_frameWith_23 : decode cB_frameWith 23 = .ok (.iinc 2 1, 3) := by decide +kernel
theorem dB_frameWith_26 : decode cB_frameWith 26 = .ok (.goto (-24), 3) := by decide +kernel
theorem dB_frameWith_29 : decode cB_frameWith 29 = .ok (.iconst (-1), 1) := by decide +kernel
theorem dB_frameWith_30 : decode cB_frameWith 30 = .ok (.ireturn, 1) := by decide +kernel
theorem dB_allHavePins_0 : decode cB_allHavePins 0 = .ok (.iconst 0, 1) := by decide +kernel
theorem dB_allHavePins_1 : decode cB_allHavePins 1 = .ok (.istore_n 1, 1) := by decide +kernel
theorem dB_allHavePins_2 : decode cB_allHavePins 2 = .ok (.iload_n 1, 1) := by decide +kernel
theorem dB_allHavePins_3 : decode cB_allHavePins 3 = .ok (.bipush 12, 2) := by decide +kernel
theorem dB_allHavePins_5 : decode cB_allHavePins 5 = .ok (.if_icmp .ge 23, 3) := by decide +kernel
theorem dB_allHavePins_8 : decode cB_allHavePins 8 = .ok (.aload_n 0, 1) := by decide +kernel
theorem dB_allHavePins_9 : decode cB_allHavePins 9 = .ok (.getfield 25, 3) := by decide +kernel
theorem dB_allHavePins_12 : decode cB_allHavePins 12 = .ok (.iload_n 1, 1) := by decide +kernel
theorem dB_allHavePins_13 : decode cB_allHavePins 13 = .ok (.aaload, 1) := by decide +kernel
theorem dB_allHavePins_14 : decode cB_allHavePins 14 = .ok (.invokevirtual 96, 3) := by decide +kernel
theorem dB_allHavePins_17 : decode cB_allHavePins 17 = .ok (.ifCond .ne 5, 3) := by decide +kernel
theorem dB_allHavePins_20 : decode cB_allHavePins 20 = .ok (.iconst 0, 1) := by decide +kernel
theorem dB_allHavePins_21 : decode cB_allHavePins 21 = .ok (.ireturn, 1) := by decide +kernel
theorem dB_allHavePins_22 : decode cB_allHavePins 22 = .ok (.iinc 1 1, 3) := by decide +kernel
theorem dB_allHavePins_25 : decode cB_allHavePins 25 = .ok (.goto (-23), 3) := by decide +kernel
theorem dB_allHavePins_28 : decode cB_allHavePins 28 = .ok (.iconst 1, 1) := by decide +kernel
theorem dB_allHavePins_29 : decode cB_allHavePins 29 = .ok (.ireturn, 1) := by decide +kernel
theorem dB_framesWithPages_0 : decode cB_framesWithPages 0 = .ok (.iconst 0, 1) := by decide +kernel
theorem dB_framesWithPages_1 : decode cB_framesWithPages 1 = .ok (.istore_n 1, 1) := by decide +kernel
theorem dB_framesWithPages_2 : decode cB_framesWithPages 2 = .ok (.iconst 0, 1) := by decide +kernel
theorem dB_framesWithPages_3 : decode cB_framesWithPages 3 = .ok (.istore_n 2, 1) := by decide +kernel
theorem dB_framesWithPages_4 : decode cB_framesWithPages 4 = .ok (.iload_n 2, 1) := by decide +kernel
theorem dB_framesWithPages_5 : decode cB_framesWithPages 5 = .ok (.bipush 12, 2) := by decide +kernel
theorem dB_framesWithPages_7 : decode cB_framesWithPages 7 = .ok (.if_icmp .ge 24, 3) := by decide +kernel
theorem dB_framesWithPages_10 : decode cB_framesWithPages 10 = .ok (.aload_n 0, 1) := by decide +kernel
theorem dB_framesWithPages_11 : decode cB_framesWithPages 11 = .ok (.getfield 25, 3) := by decide +kernel
theorem dB_framesWithPages_14 : decode cB_framesWithPages 14 = .ok (.iload_n 2, 1) := by decide +kernel
theorem dB_framesWithPages_15 : decode cB_framesWithPages 15 = .ok (.aaload, 1) := by decide +kernel
theorem dB_framesWithPages_16 : decode cB_framesWithPages 16 = .ok (.invokevirtual 105, 3) := by decide +kernel
theorem dB_framesWithPages_19 : decode cB_framesWithPages 19 = .ok (.ifCond .ne 6, 3) := by decide +kernel
theorem dB_framesWithPages_22 : decode cB_framesWithPages 22 = .ok (.iinc 1 1, 3) := by decide +kernel
theorem dB_framesWithPages_25 : decode cB_framesWithPages 25 = .ok (.iinc 2 1, 3) := by decide +kernel
theorem dB_framesWithPages_28 : decode cB_framesWithPages 28 = .ok (.goto (-24), 3) := by decide +kernel
theorem dB_framesWithPages_31 : decode cB_framesWithPages 31 = .ok (.iload_n 1, 1) := by decide +kernel
theorem dB_framesWithPages_32 : decode cB_framesWithPages 32 = .ok (.ireturn, 1) := by decide +kernel
theorem dB_dirtyFrameOfLowestPage_0 : decode cB_dirtyFrameOfLowestPage 0 = .ok (.iconst (-1), 1) := by decide +kernel
theorem dB_dirtyFrameOfLowestPage_1 : decode cB_dirtyFrameOfLowestPage 1 = .ok (.istore_n 1, 1) := by decide +kernel
theorem dB_dirtyFrameOfLowestPage_2 : decode cB_dirtyFrameOfLowestPage 2 = .ok (.iconst 0, 1) := by decide +kernel
theorem dB_dirtyFrameOfLowestPage_3 : decode cB_dirtyFrameOfLowestPage 3 = .ok (.istore_n 2, 1) := by decide +kernel
theorem dB_dirtyFrameOfLowestPage_4 : decode cB_dirtyFrameOfLowestPage 4 = .ok (.iload_n 2, 1) := by decide +kernel
theorem dB_dirtyFrameOfLowestPage_5 : decode cB_dirtyFrameOfLowestPage 5 = .ok (.bipush 12, 2) := by decide +kernel
theorem dB_dirtyFrameOfLowestPage_7 : decode cB_dirtyFrameOfLowestPage 7 = .ok (.if_icmp .ge 49, 3) := by decide +kernel
theorem dB_dirtyFrameOfLowestPage_10 : decode cB_dirtyFrameOfLowestPage 10 = .ok (.aload_n 0, 1) := by decide +kernel
theorem dB_dirtyFrameOfLowestPage_11 : decode cB_dirtyFrameOfLowestPage 11 = .ok (.getfield 25, 3) := by decide +kernel
theorem dB_dirtyFrameOfLowestPage_14 : decode cB_dirtyFrameOfLowestPage 14 = .ok (.iload_n 2, 1) := by decide +kernel
theorem dB_dirtyFrameOfLowestPage_15 : decode cB_dirtyFrameOfLowestPage 15 = .ok (.aaload, 1) := by decide +kernel
theorem dB_dirtyFrameOfLowestPage_16 : decode cB_dirtyFrameOfLowestPage 16 = .ok (.getfield 117, 3) := by decide +kernel
theorem dB_dirtyFrameOfLowestPage_19 : decode cB_dirtyFrameOfLowestPage 19 = .ok (.ifCond .eq 31, 3) := by decide +kernel
theorem dB_dirtyFrameOfLowestPage_22 : decode cB_dirtyFrameOfLowestPage 22 = .ok (.iload_n 1, 1) := by decide +kernel
theorem dB_dirtyFrameOfLowestPage_23 : decode cB_dirtyFrameOfLowestPage 23 = .ok (.iconst (-1), 1) := by decide +kernel
theorem dB_dirtyFrameOfLowestPage_24 : decode cB_dirtyFrameOfLowestPage 24 = .ok (.if_icmp .eq 24, 3) := by decide +kernel
theorem dB_dirtyFrameOfLowestPage_27 : decode cB_dirtyFrameOfLowestPage 27 = .ok (.aload_n 0, 1) := by decide +kernel
theorem dB_dirtyFrameOfLowestPage_28 : decode cB_dirtyFrameOfLowestPage 28 = .ok (.getfield 25, 3) := by decide +kernel
theorem dB_dirtyFrameOfLowestPage_31 : decode cB_dirtyFrameOfLowestPage 31 = .ok (.iload_n 2, 1) := by decide +kernel
theorem dB_dirtyFrameOfLowestPage_32 : decode cB_dirtyFrameOfLowestPage 32 = .ok (.aaload, 1) := by decide +kernel
theorem dB_dirtyFrameOfLowestPage_33 : decode cB_dirtyFrameOfLowestPage 33 = .ok (.getfield 139, 3) := by decide +kernel
theorem dB_dirtyFrameOfLowestPage_36 : decode cB_dirtyFrameOfLowestPage 36 = .ok (.aload_n 0, 1) := by decide +kernel
theorem dB_dirtyFrameOfLowestPage_37 : decode cB_dirtyFrameOfLowestPage 37 = .ok (.getfield 25, 3) := by decide +kernel
theorem dB_dirtyFrameOfLowestPage_40 : decode cB_dirtyFrameOfLowestPage 40 = .ok (.iload_n 1, 1) := by decide +kernel
theorem dB_dirtyFrameOfLowestPage_41 : decode cB_dirtyFrameOfLowestPage 41 = .ok (.aaload, 1) := by decide +kernel
theorem dB_dirtyFrameOfLowestPage_42 : decode cB_dirtyFrameOfLowestPage 42 = .ok (.getfield 139, 3) := by decide +kernel
theorem dB_dirtyFrameOfLowestPage_45 : decode cB_dirtyFrameOfLowestPage 45 = .ok (.if_icmp .ge 5, 3) := by decide +kernel
theorem dB_dirtyFrameOfLowestPage_48 : decode cB_dirtyFrameOfLowestPage 48 = .ok (.iload_n 2, 1) := by decide +kernel
theorem dB_dirtyFrameOfLowestPage_49 : decode cB_dirtyFrameOfLowestPage 49 = .ok (.istore_n 1, 1) := by decide +kernel
theorem dB_dirtyFrameOfLowestPage_50 : decode cB_dirtyFrameOfLowestPage 50 = .ok (.iinc 2 1, 3) := by decide +kernel
theorem dB_dirtyFrameOfLowestPage_53 : decode cB_dirtyFrameOfLowestPage 53 = .ok (.goto (-49), 3) := by decide +kernel
theorem dB_dirtyFrameOfLowestPage_56 : decode cB_dirtyFrameOfLowestPage 56 = .ok (.iload_n 1, 1) := by decide +kernel
theorem dB_dirtyFrameOfLowestPage_57 : decode cB_dirtyFrameOfLowestPage 57 = .ok (.ireturn, 1) := by decide +kernel
theorem dB_findFrame_0 : decode cB_findFrame 0 = .ok (.aload_n 0, 1) := by decide +kernel
theorem dB_findFrame_1 : decode cB_findFrame 1 = .ok (.iconst (-1), 1) := by decide +kernel
theorem dB_findFrame_2 : decode cB_findFrame 2 = .ok (.invokevirtual 45, 3) := by decide +kernel
theorem dB_findFrame_5 : decode cB_findFrame 5 = .ok (.istore_n 1, 1) := by decide +kernel
theorem dB_findFrame_6 : decode cB_findFrame 6 = .ok (.iload_n 1, 1) := by decide +kernel
theorem dB_findFrame_7 : decode cB_findFrame 7 = .ok (.iconst (-1), 1) := by decide +kernel
theorem dB_findFrame_8 : decode cB_findFrame 8 = .ok (.if_icmp .eq 5, 3) := by decide +kernel
theorem dB_findFrame_11 : decode cB_findFrame 11 = .ok (.iload_n 1, 1) := by decide +kernel
theorem dB_findFrame_12 : decode cB_findFrame 12 = .ok (.ireturn, 1) := by decide +kernel
theorem dB_findFrame_13 : decode cB_findFrame 13 = .ok (.aload_n 0, 1) := by decide +kernel
theorem dB_findFrame_14 : decode cB_findFrame 14 = .ok (.invokevirtual 167, 3) := by decide +kernel
theorem dB_findFrame_17 : decode cB_findFrame 17 = .ok (.istore_n 1, 1) := by decide +kernel
theorem dB_findFrame_18 : decode cB_findFrame 18 = .ok (.aload_n 0, 1) := by decide +kernel
theorem dB_findFrame_19 : decode cB_findFrame 19 = .ok (.getfield 25, 3) := by decide +kernel
theorem dB_findFrame_22 : decode cB_findFrame 22 = .ok (.iload_n 1, 1) := by decide +kernel
theorem dB_findFrame_23 : decode cB_findFrame 23 = .ok (.aaload, 1) := by decide +kernel
theorem dB_findFrame_24 : decode cB_findFrame 24 = .ok (.getfield 117, 3) := by decide +kernel
theorem dB_findFrame_27 : decode cB_findFrame 27 = .ok (.ifCond .eq 13, 3) := by decide +kernel
theorem dB_findFrame_30 : decode cB_findFrame 30 = .ok (.aload_n 0, 1) := by decide +kernel
theorem dB_findFrame_31 : decode cB_findFrame 31 = .ok (.aload_n 0, 1) := by decide +kernel
theorem dB_findFrame_32 : decode cB_findFrame 32 = .ok (.getfield 25, 3) := by decide +kernel
theorem dB_findFrame_35 : decode cB_findFrame 35 = .ok (.iload_n 1, 1) := by decide +kernel
theorem dB_findFrame_36 : decode cB_findFrame 36 = .ok (.aaload, 1) := by decide +kernel
theorem dB_findFrame_37 : decode cB_findFrame 37 = .ok (.invokevirtual 121, 3) := by decide +kernel
theorem dB_findFrame_40 : decode cB_findFrame 40 = .ok (.iload_n 1, 1) := by decide +kernel
theorem dB_findFrame_41 : decode cB_findFrame 41 = .ok (.ireturn, 1) := by decide +kernel
theorem dB_frameByHand_0 : decode cB_frameByHand 0 = .ok (.iconst 0, 1) := by decide +kernel
theorem dB_frameByHand_1 : decode cB_frameByHand 1 = .ok (.istore_n 1, 1) := by decide +kernel
theorem dB_frameByHand_2 : decode cB_frameByHand 2 = .ok (.iload_n 1, 1) := by decide +kernel
theorem dB_frameByHand_3 : decode cB_frameByHand 3 = .ok (.bipush 48, 2) := by decide +kernel
theorem dB_frameByHand_5 : decode cB_frameByHand 5 = .ok (.if_icmp .ge 47, 3) := by decide +kernel
theorem dB_frameByHand_8 : decode cB_frameByHand 8 = .ok (.aload_n 0, 1) := by decide +kernel
theorem dB_frameByHand_9 : decode cB_frameByHand 9 = .ok (.getfield 25, 3) := by decide +kernel
theorem dB_frameByHand_12 : decode cB_frameByHand 12 = .ok (.aload_n 0, 1) := by decide +kernel
theorem dB_frameByHand_13 : decode cB_frameByHand 13 = .ok (.getfield 30, 3) := by decide +kernel
theorem dB_frameByHand_16 : decode cB_frameByHand 16 = .ok (.aaload, 1) := by decide +kernel
theorem dB_frameByHand_17 : decode cB_frameByHand 17 = .ok (.invokevirtual 170, 3) := by decide +kernel
theorem dB_frameByHand_20 : decode cB_frameByHand 20 = .ok (.ifCond .ne 32, 3) := by decide +kernel
theorem dB_frameByHand_23 : decode cB_frameByHand 23 = .ok (.aload_n 0, 1) := by decide +kernel
theorem dB_frameByHand_24 : decode cB_frameByHand 24 = .ok (.getfield 25, 3) := by decide +kernel
theorem dB_frameByHand_27 : decode cB_frameByHand 27 = .ok (.aload_n 0, 1) := by decide +kernel
theorem dB_frameByHand_28 : decode cB_frameByHand 28 = .ok (.getfield 30, 3) := by decide +kernel
theorem dB_frameByHand_31 : decode cB_frameByHand 31 = .ok (.aaload, 1) := by decide +kernel
theorem dB_frameByHand_32 : decode cB_frameByHand 32 = .ok (.invokevirtual 173, 3) := by decide +kernel
theorem dB_frameByHand_35 : decode cB_frameByHand 35 = .ok (.aload_n 0, 1) := by decide +kernel
theorem dB_frameByHand_36 : decode cB_frameByHand 36 = .ok (.aload_n 0, 1) := by decide +kernel
theorem dB_frameByHand_37 : decode cB_frameByHand 37 = .ok (.getfield 30, 3) := by decide +kernel
theorem dB_frameByHand_40 : decode cB_frameByHand 40 = .ok (.invokestatic 125, 3) := by decide +kernel
theorem dB_frameByHand_43 : decode cB_frameByHand 43 = .ok (.putfield 30, 3) := by decide +kernel
theorem dB_frameByHand_46 : decode cB_frameByHand 46 = .ok (.iinc 1 1, 3) := by decide +kernel
theorem dB_frameByHand_49 : decode cB_frameByHand 49 = .ok (.goto (-47), 3) := by decide +kernel
theorem dB_frameByHand_52 : decode cB_frameByHand 52 = .ok (.aload_n 0, 1) := by decide +kernel
theorem dB_frameByHand_53 : decode cB_frameByHand 53 = .ok (.getfield 30, 3) := by decide +kernel
theorem dB_frameByHand_56 : decode cB_frameByHand 56 = .ok (.istore_n 1, 1) := by decide +kernel
theorem dB_frameByHand_57 : decode cB_frameByHand 57 = .ok (.aload_n 0, 1) := by decide +kernel
theorem dB_frameByHand_58 : decode cB_frameByHand 58 = .ok (.iload_n 1, 1) := by decide +kernel
theorem dB_frameByHand_59 : decode cB_frameByHand 59 = .ok (.invokestatic 125, 3) := by decide +kernel
theorem dB_frameByHand_62 : decode cB_frameByHand 62 = .ok (.putfield 30, 3) := by decide +kernel
theorem dB_frameByHand_65 : decode cB_frameByHand 65 = .ok (.iload_n 1, 1) := by decide +kernel
theorem dB_frameByHand_66 : decode cB_frameByHand 66 = .ok (.ireturn, 1) := by decide +kernel
theorem dB_writePageOf_0 : decode cB_writePageOf 0 = .ok (.aload_n 0, 1) := by decide +kernel
theorem dB_writePageOf_1 : decode cB_writePageOf 1 = .ok (.getfield 19, 3) := by decide +kernel
theorem dB_writePageOf_4 : decode cB_writePageOf 4 = .ok (.aload_n 1, 1) := by decide +kernel
theorem dB_writePageOf_5 : decode cB_writePageOf 5 = .ok (.invokevirtual 108, 3) := by decide +kernel
theorem dB_writePageOf_8 : decode cB_writePageOf 8 = .ok (.invokevirtual 176, 3) := by decide +kernel
theorem dB_writePageOf_11 : decode cB_writePageOf 11 = .ok (.aload_n 1, 1) := by decide +kernel
theorem dB_writePageOf_12 : decode cB_writePageOf 12 = .ok (.invokevirtual 179, 3) := by decide +kernel
theorem dB_writePageOf_15 : decode cB_writePageOf 15 = .ok (.iconst 0, 1) := by decide +kernel
theorem dB_writePageOf_16 : decode cB_writePageOf 16 = .ok (.istore_n 2, 1) := by decide +kernel
theorem dB_writePageOf_17 : decode cB_writePageOf 17 = .ok (.iload_n 2, 1) := by decide +kernel
theorem dB_writePageOf_18 : decode cB_writePageOf 18 = .ok (.bipush 8, 2) := by decide +kernel
theorem dB_writePageOf_20 : decode cB_writePageOf 20 = .ok (.if_icmp .ge 42, 3) := by decide +kernel
theorem dB_writePageOf_23 : decode cB_writePageOf 23 = .ok (.aload_n 0, 1) := by decide +kernel
theorem dB_writePageOf_24 : decode cB_writePageOf 24 = .ok (.getfield 12, 3) := by decide +kernel
theorem dB_writePageOf_27 : decode cB_writePageOf 27 = .ok (.aload_n 1, 1) := by decide +kernel
theorem dB_writePageOf_28 : decode cB_writePageOf 28 = .ok (.getfield 139, 3) := by decide +kernel
theorem dB_writePageOf_31 : decode cB_writePageOf 31 = .ok (.iload_n 2, 1) := by decide +kernel
theorem dB_writePageOf_32 : decode cB_writePageOf 32 = .ok (.aload_n 1, 1) := by decide +kernel
theorem dB_writePageOf_33 : decode cB_writePageOf 33 = .ok (.getfield 77, 3) := by decide +kernel
theorem dB_writePageOf_36 : decode cB_writePageOf 36 = .ok (.invokevirtual 182, 3) := by decide +kernel
theorem dB_writePageOf_39 : decode cB_writePageOf 39 = .ok (.ifCond .ne 17, 3) := by decide +kernel
theorem dB_writePageOf_42 : decode cB_writePageOf 42 = .ok (.aload_n 0, 1) := by decide +kernel
theorem dB_writePageOf_43 : decode cB_writePageOf 43 = .ok (.invokevirtual 186, 3) := by decide +kernel
theorem dB_writePageOf_46 : decode cB_writePageOf 46 = .ok (.new 189, 3) := by decide +kernel
theorem dB_writePageOf_49 : decode cB_writePageOf 49 = .ok (.dup, 1) := by decide +kernel
theorem dB_writePageOf_50 : decode cB_writePageOf 50 = .ok (.ldc 191, 2) := by decide +kernel
theorem dB_writePageOf_52 : decode cB_writePageOf 52 = .ok (.invokespecial 193, 3) := by decide +kernel
theorem dB_writePageOf_55 : decode cB_writePageOf 55 = .ok (.athrow, 1) := by decide +kernel
theorem dB_writePageOf_56 : decode cB_writePageOf 56 = .ok (.iinc 2 1, 3) := by decide +kernel
theorem dB_writePageOf_59 : decode cB_writePageOf 59 = .ok (.goto (-42), 3) := by decide +kernel
theorem dB_writePageOf_62 : decode cB_writePageOf 62 = .ok (.aload_n 1, 1) := by decide +kernel
theorem dB_writePageOf_63 : decode cB_writePageOf 63 = .ok (.iconst 0, 1) := by decide +kernel
theorem dB_writePageOf_64 : decode cB_writePageOf 64 = .ok (.putfield 117, 3) := by decide +kernel
theorem dB_writePageOf_67 : decode cB_writePageOf 67 = .ok (.return_, 1) := by decide +kernel
theorem dB_losePower_0 : decode cB_losePower 0 = .ok (.iconst 0, 1) := by decide +kernel
theorem dB_losePower_1 : decode cB_losePower 1 = .ok (.istore_n 1, 1) := by decide +kernel
theorem dB_losePower_2 : decode cB_losePower 2 = .ok (.iload_n 1, 1) := by decide +kernel
theorem dB_losePower_3 : decode cB_losePower 3 = .ok (.bipush 12, 2) := by decide +kernel
theorem dB_losePower_5 : decode cB_losePower 5 = .ok (.if_icmp .ge 18, 3) := by decide +kernel
theorem dB_losePower_8 : decode cB_losePower 8 = .ok (.aload_n 0, 1) := by decide +kernel
theorem dB_losePower_9 : decode cB_losePower 9 = .ok (.getfield 25, 3) := by decide +kernel
theorem dB_losePower_12 : decode cB_losePower 12 = .ok (.iload_n 1, 1) := by decide +kernel
theorem dB_losePower_13 : decode cB_losePower 13 = .ok (.aaload, 1) := by decide +kernel
theorem dB_losePower_14 : decode cB_losePower 14 = .ok (.invokevirtual 194, 3) := by decide +kernel
theorem dB_losePower_17 : decode cB_losePower 17 = .ok (.iinc 1 1, 3) := by decide +kernel
theorem dB_losePower_20 : decode cB_losePower 20 = .ok (.goto (-18), 3) := by decide +kernel
theorem dB_losePower_23 : decode cB_losePower 23 = .ok (.aload_n 0, 1) := by decide +kernel
theorem dB_losePower_24 : decode cB_losePower 24 = .ok (.iconst 0, 1) := by decide +kernel
theorem dB_losePower_25 : decode cB_losePower 25 = .ok (.putfield 30, 3) := by decide +kernel
theorem dB_losePower_28 : decode cB_losePower 28 = .ok (.aload_n 0, 1) := by decide +kernel
theorem dB_losePower_29 : decode cB_losePower 29 = .ok (.getfield 12, 3) := by decide +kernel
theorem dB_losePower_32 : decode cB_losePower 32 = .ok (.iconst (-1), 1) := by decide +kernel
theorem dB_losePower_33 : decode cB_losePower 33 = .ok (.putfield 133, 3) := by decide +kernel
theorem dB_losePower_36 : decode cB_losePower 36 = .ok (.return_, 1) := by decide +kernel
end
section
theorem dM_init_0 : decode cM_init 0 = .ok (.aload_n 0, 1) := by decide +kernel
theorem dM_init_1 : decode cM_init 1 = .ok (.invokespecial 1, 3) := by decide +kernel
theorem dM_init_4 : decode cM_init 4 = .ok (.aload_n 0, 1) := by decide +kernel
theorem dM_init_5 : decode cM_init 5 = .ok (.sipush 520, 3) := by decide +kernel
theorem dM_init_8 : decode cM_init 8 = .ok (.newarray .short, 2) := by decide +kernel
theorem dM_init_10 : decode cM_init 10 = .ok (.putfield 7, 3) := by decide +kernel
theorem dM_init_13 : decode cM_init 13 = .ok (.aload_n 0, 1) := by decide +kernel
theorem dM_init_14 : decode cM_init 14 = .ok (.sipush 520, 3) := by decide +kernel
theorem dM_init_17 : decode cM_init 17 = .ok (.newarray .short, 2) := by decide +kernel
theorem dM_init_19 : decode cM_init 19 = .ok (.putfield 13, 3) := by decide +kernel
theorem dM_init_22 : decode cM_init 22 = .ok (.aload_n 0, 1) := by decide +kernel
theorem dM_init_23 : decode cM_init 23 = .ok (.sipush 520, 3) := by decide +kernel
theorem dM_init_26 : decode cM_init 26 = .ok (.newarray .short, 2) := by decide +kernel
theorem dM_init_28 : decode cM_init 28 = .ok (.putfield 16, 3) := by decide +kernel
theorem dM_init_31 : decode cM_init 31 = .ok (.aload_n 0, 1) := by decide +kernel
theorem dM_init_32 : decode cM_init 32 = .ok (.sipush 520, 3) := by decide +kernel
theorem dM_init_35 : decode cM_init 35 = .ok (.newarray .int, 2) := by decide +kernel
theorem dM_init_37 : decode cM_init 37 = .ok (.putfield 19, 3) := by decide +kernel
theorem dM_init_40 : decode cM_init 40 = .ok (.aload_n 0, 1) := by decide +kernel
theorem dM_init_41 : decode cM_init 41 = .ok (.sipush 520, 3) := by decide +kernel
theorem dM_init_44 : decode cM_init 44 = .ok (.newarray .boolean, 2) := by decide +kernel
theorem dM_init_46 : decode cM_init 46 = .ok (.putfield 23, 3) := by decide +kernel
theorem dM_init_49 : decode cM_init 49 = .ok (.aload_n 0, 1) := by decide +kernel
theorem dM_init_50 : decode cM_init 50 = .ok (.sipush 520, 3) := by decide +kernel
theorem dM_init_53 : decode cM_init 53 = .ok (.newarray .boolean, 2) := by decide +kernel
theorem dM_init_55 : decode cM_init 55 = .ok (.putfield 27, 3) := by decide +kernel
theorem dM_init_58 : decode cM_init 58 = .ok (.aload_n 0, 1) := by decide +kernel
theorem dM_init_59 : decode cM_init 59 = .ok (.sipush 1536, 3) := by decide +kernel
theorem dM_init_62 : decode cM_init 62 = .ok (.newarray .short, 2) := by decide +kernel
theorem dM_init_64 : decode cM_init 64 = .ok (.putfield 30, 3) := by decide +kernel
theorem dM_init_67 : decode cM_init 67 = .ok (.aload_n 0, 1) := by decide +kernel
theorem dM_init_68 : decode cM_init 68 = .ok (.sipush 1536, 3) := by decide +kernel
theorem dM_init_71 : decode cM_init 71 = .ok (.newarray .short, 2) := by decide +kernel
theorem dM_init_73 : decode cM_init 73 = .ok (.putfield 33, 3) := by decide +kernel
theorem dM_init_76 : decode cM_init 76 = .ok (.aload_n 0, 1) := by decide +kernel
theorem dM_init_77 : decode cM_init 77 = .ok (.sipush 192, 3) := by decide +kernel
theorem dM_init_80 : decode cM_init 80 = .ok (.newarray .int, 2) := by decide +kernel
theorem dM_init_82 : decode cM_init 82 = .ok (.putfield 36, 3) := by decide +kernel
theorem dM_init_85 : decode cM_init 85 = .ok (.aload_n 0, 1) := by decide +kernel
theorem dM_init_86 : decode cM_init 86 = .ok (.sipush 192, 3) := by decide +kernel
theorem dM_init_89 : decode cM_init 89 = .ok (.newarray .int, 2) := by decide +kernel
theorem dM_init_91 : decode cM_init 91 = .ok (.putfield 39, 3) := by decide +kernel
theorem dM_init_94 : decode cM_init 94 = .ok (.aload_n 0, 1) := by decide +kernel
theorem dM_init_95 : decode cM_init 95 = .ok (.bipush 12, 2) := by decide +kernel
theorem dM_init_97 : decode cM_init 97 = .ok (.newarray .int, 2) := by decide +kernel
theorem dM_init_99 : decode cM_init 99 = .ok (.putfield 42, 3) := by decide +kernel
theorem dM_init_102 : decode cM_init 102 = .ok (.aload_n 0, 1) := by decide +kernel
theorem dM_init_103 : decode cM_init 103 = .ok (.bipush 12, 2) := by decide +kernel
theorem dM_init_105 : decode cM_init 105 = .ok (.newarray .int, 2) := by decide +kernel
theorem dM_init_107 : decode cM_init 107 = .ok (.putfield 45, 3) := by decide +kernel
theorem dM_init_110 : decode cM_init 110 = .ok (.aload_n 0, 1) := by decide +kernel
theorem dM_init_111 : decode cM_init 111 = .ok (.bipush 12, 2) := by decide +kernel
theorem dM_init_113 : decode cM_init 113 = .ok (.newarray .int, 2) := by decide +kernel
theorem dM_init_115 : decode cM_init 115 = .ok (.putfield 48, 3) := by decide +kernel
theorem dM_init_118 : decode cM_init 118 = .ok (.aload_n 0, 1) := by decide +kernel
theorem dM_init_119 : decode cM_init 119 = .ok (.bipush 12, 2) := by decide +kernel
theorem dM_init_121 : decode cM_init 121 = .ok (.newarray .boolean, 2) := by decide +kernel
theorem dM_init_123 : decode cM_init 123 = .ok (.putfield 51, 3) := by decide +kernel
theorem dM_init_126 : decode cM_init 126 = .ok (.aload_n 0, 1) := by decide +kernel
theorem dM_init_127 : decode cM_init 127 = .ok (.bipush 12, 2) := by decide +kernel
theorem dM_init_129 : decode cM_init 129 = .ok (.newarray .int, 2) := by decide +kernel
theorem dM_init_131 : decode cM_init 131 = .ok (.putfield 54, 3) := by decide +kernel
theorem dM_init_134 : decode cM_init 134 = .ok (.aload_n 0, 1) := by decide +kernel
theorem dM_init_135 : decode cM_init 135 = .ok (.bipush 12, 2) := by decide +kernel
theorem dM_init_137 : decode cM_init 137 = .ok (.newarray .int, 2) := by decide +kernel
theorem dM_init_139 : decode cM_init 139 = .ok (.putfield 57, 3) := by decide +kernel
theorem dM_init_142 : decode cM_init 142 = .ok (.aload_n 0, 1) := by decide +kernel
theorem dM_init_143 : decode cM_init 143 = .ok (.iconst (-1), 1) := by decide +kernel
theorem dM_init_144 : decode cM_init 144 = .ok (.putfield 60, 3) := by decide +kernel
theorem dM_init_147 : decode cM_init 147 = .ok (.aload_n 0, 1) := by decide +kernel
theorem dM_init_148 : decode cM_init 148 = .ok (.invokevirtual 64, 3) := by decide +kernel
theorem dM_init_151 : decode cM_init 151 = .ok (.return_, 1) := by decide +kernel
theorem dM_thrown_0 : decode cM_thrown 0 = .ok (.aload_n 0, 1) := by decide +kernel
theorem dM_thrown_1 : decode cM_thrown 1 = .ok (.getfield 67, 3) := by decide +kernel
theorem dM_thrown_4 : decode cM_thrown 4 = .ok (.ireturn, 1) := by decide +kernel
theorem dM_fails_0 : decode cM_fails 0 = .ok (.aload_n 0, 1) := by decide +kernel
theorem dM_fails_1 : decode cM_fails 1 = .ok (.iload_n 1, 1) := by decide +kernel
theorem dM_fails_2 : decode cM_fails 2 = .ok (.putfield 67, 3) := by decide +kernel
theorem dM_fails_5 : decode cM_fails 5 = .ok (.iconst 0, 1) := by decide +kernel
theorem dM_fails_6 : decode cM_fails 6 = .ok (.ireturn, 1) := by decide +kernel
theorem dM_empty_0 : decode cM_empty 0 = .ok (.iconst 0, 1) := by decide +kernel
theorem dM_empty_1 : decode cM_empty 1 = .ok (.istore_n 1, 1) := by decide +kernel
theorem dM_empty_2 : decode cM_empty 2 = .ok (.iload_n 1, 1) := by decide +kernel
theorem dM_empty_3 : decode cM_empty 3 = .ok (.bipush 12, 2) := by decide +kernel
theorem dM_empty_5 : decode cM_empty 5 = .ok (.if_icmp .ge 16, 3) := by decide +kernel
theorem dM_empty_8 : decode cM_empty 8 = .ok (.aload_n 0, 1) := by decide +kernel
theorem dM_empty_9 : decode cM_empty 9 = .ok (.getfield 42, 3) := by decide +kernel
theorem dM_empty_12 : decode cM_empty 12 = .ok (.iload_n 1, 1) := by decide +kernel
theorem dM_empty_13 : decode cM_empty 13 = .ok (.iconst (-1), 1) := by decide +kernel
theorem dM_empty_14 : decode cM_empty 14 = .ok (.iastore, 1) := by decide +kernel
theorem dM_empty_15 : decode cM_empty 15 = .ok (.iinc 1 1, 3) := by decide +kernel
theorem dM_empty_18 : decode cM_empty 18 = .ok (.goto (-16), 3) := by decide +kernel
theorem dM_empty_21 : decode cM_empty 21 = .ok (.aload_n 0, 1) := by decide +kernel
theorem dM_empty_22 : decode cM_empty 22 = .ok (.iconst 0, 1) := by decide +kernel
theorem dM_empty_23 : decode cM_empty 23 = .ok (.putfield 70, 3) := by decide +kernel
theorem dM_empty_26 : decode cM_empty 26 = .ok (.aload_n 0, 1) := by decide +kernel
theorem dM_empty_27 : decode cM_empty 27 = .ok (.iconst (-1), 1) := by decide +kernel
theorem dM_empty_28 : decode cM_empty 28 = .ok (.putfield 60, 3) := by decide +kernel
theorem dM_empty_31 : decode cM_empty 31 = .ok (.return_, 1) := by decide +kernel
theorem dM_isPage_0 : decode cM_isPage 0 = .ok (.iload_n 0, 1) := by decide +kernel
theorem dM_isPage_1 : decode cM_isPage 1 = .ok (.ifCond .lt 14, 3) := by decide +kernel
theorem dM_isPage_4 : decode cM_isPage 4 = .ok (.iload_n 0, 1) := by decide +kernel
theorem dM_isPage_5 : decode cM_isPage 5 = .ok (.sipush 192, 3) := by decide +kernel
theorem dM_isPage_8 : decode cM_isPage 8 = .ok (.if_icmp .ge 7, 3) := by decide +kernel
theorem dM_isPage_11 : decode cM_isPage 11 = .ok (.iconst 1, 1) := by decide +kernel
theorem dM_isPage_12 : decode cM_isPage 12 = .ok (.goto 4, 3) := by decide +kernel
theorem dM_isPage_15 : decode cM_isPage 15 = .ok (.iconst 0, 1) := by decide +kernel
theorem dM_isPage_16 : decode cM_isPage 16 = .ok (.ireturn, 1) := by decide +kernel
theorem dM_isTorn_0 : decode cM_isTorn 0 = .ok (.aload_n 0, 1) := by decide +kernel
theorem dM_isTorn_1 : decode cM_isTorn 1 = .ok (.getfield 36, 3) := by decide +kernel
theorem dM_isTorn_4 : decode cM_isTorn 4 = .ok (.iload_n 1, 1) := by decide +kernel
theorem dM_isTorn_5 : decode cM_isTorn 5 = .ok (.iaload, 1) := by decide +kernel
theorem dM_isTorn_6 : decode cM_isTorn 6 = .ok (.aload_n 0, 1) := by decide +kernel
theorem dM_isTorn_7 : decode cM_isTorn 7 = .ok (.getfield 39, 3) := by decide +kernel
theorem dM_isTorn_10 : decode cM_isTorn 10 = .ok (.iload_n 1, 1) := by decide +kernel
theorem dM_isTorn_11 : decode cM_isTorn 11 = .ok (.iaload, 1) := by decide +kernel
theorem dM_isTorn_12 : decode cM_isTorn 12 = .ok (.if_icmp .eq 7, 3) := by decide +kernel
theorem dM_isTorn_15 : decode cM_isTorn 15 = .ok (.iconst 1, 1) := by decide +kernel
theorem dM_isTorn_16 : decode cM_isTorn 16 = .ok (.goto 4, 3) := by decide +kernel
theorem dM_isTorn_19 : decode cM_isTorn 19 = .ok (.iconst 0, 1) := by decide +kernel
theorem dM_isTorn_20 : decode cM_isTorn 20 = .ok (.ireturn, 1) := by decide +kernel
theorem dM_valueOf_0 : decode cM_valueOf 0 = .ok (.iconst 0, 1) := by decide +kernel
theorem dM_valueOf_1 : decode cM_valueOf 1 = .ok (.istore 5, 2) := by decide +kernel
theorem dM_valueOf_3 : decode cM_valueOf 3 = .ok (.iload_n 3, 1) := by decide +kernel
theorem dM_valueOf_4 : decode cM_valueOf 4 = .ok (.iconst 1, 1) := by decide +kernel
theorem dM_valueOf_5 : decode cM_valueOf 5 = .ok (.iadd, 1) := by decide +kernel
theorem dM_valueOf_6 : decode cM_valueOf 6 = .ok (.istore 6, 2) := by decide +kernel
theorem dM_valueOf_8 : decode cM_valueOf 8 = .ok (.iload 6, 2) := by decide +kernel
theorem dM_valueOf_10 : decode cM_valueOf 10 = .ok (.iload 4, 2) := by decide +kernel
theorem dM_valueOf_12 : decode cM_valueOf 12 = .ok (.if_icmp .gt 55, 3) := by decide +kernel
theorem dM_valueOf_15 : decode cM_valueOf 15 = .ok (.aload_n 0, 1) := by decide +kernel
theorem dM_valueOf_16 : decode cM_valueOf 16 = .ok (.getfield 7, 3) := by decide +kernel
theorem dM_valueOf_19 : decode cM_valueOf 19 = .ok (.iload 6, 2) := by decide +kernel
theorem dM_valueOf_21 : decode cM_valueOf 21 = .ok (.saload, 1) := by decide +kernel
theorem dM_valueOf_22 : decode cM_valueOf 22 = .ok (.iload_n 1, 1) := by decide +kernel
theorem dM_valueOf_23 : decode cM_valueOf 23 = .ok (.if_icmp .ne 34, 3) := by decide +kernel
theorem dM_valueOf_26 : decode cM_valueOf 26 = .ok (.aload_n 0, 1) := by decide +kernel
theorem dM_valueOf_27 : decode cM_valueOf 27 = .ok (.getfield 13, 3) := by decide +kernel
theorem dM_valueOf_30 : decode cM_valueOf 30 = .ok (.iload 6, 2) := by decide +kernel
theorem dM_valueOf_32 : decode cM_valueOf 32 = .ok (.saload, 1) := by decide +kernel
theorem dM_valueOf_33 : decode cM_valueOf 33 = .ok (.iload_n 2, 1) := by decide +kernel
theorem dM_valueOf_34 : decode cM_valueOf 34 = .ok (.if_icmp .ne 23, 3) := by decide +kernel
theorem dM_valueOf_37 : decode cM_valueOf 37 = .ok (.aload_n 0, 1) := by decide +kernel
theorem dM_valueOf_38 : decode cM_valueOf 38 = .ok (.getfield 23, 3) := by decide +kernel
theorem dM_valueOf_41 : decode cM_valueOf 41 = .ok (.iload 6, 2) := by decide +kernel
theorem dM_valueOf_43 : decode cM_valueOf 43 = .ok (.baload, 1) := by decide +kernel
theorem dM_valueOf_44 : decode cM_valueOf 44 = .ok (.ifCond .ne 13, 3) := by decide +kernel
theorem dM_valueOf_47 : decode cM_valueOf 47 = .ok (.aload_n 0, 1) := by decide +kernel
theorem dM_valueOf_48 : decode cM_valueOf 48 = .ok (.getfield 16, 3) := by decide +kernel
theorem dM_valueOf_51 : decode cM_valueOf 51 = .ok (.iload 6, 2) := by decide +kernel
theorem dM_valueOf_53 : decode cM_valueOf 53 = .ok (.saload, 1) := by decide +kernel
theorem dM_valueOf_54 : decode cM_valueOf 54 = .ok (.goto 5, 3) := by decide +kernel
theorem dM_valueOf_57 : decode cM_valueOf 57 = .ok (.iload 5, 2) := by decide +kernel
theorem dM_valueOf_59 : decode cM_valueOf 59 = .ok (.istore 5, 2) := by decide +kernel
theorem dM_valueOf_61 : decode cM_valueOf 61 = .ok (.iinc 6 1, 3) := by decide +kernel
theorem dM_valueOf_64 : decode cM_valueOf 64 = .ok (.goto (-56), 3) := by decide +kernel
theorem dM_valueOf_67 : decode cM_valueOf 67 = .ok (.iload 5, 2) := by decide +kernel
theorem dM_valueOf_69 : decode cM_valueOf 69 = .ok (.ireturn, 1) := by decide +kernel
theorem dM_placeOf_0 : decode cM_placeOf 0 = .ok (.iconst 0, 1) := by decide +kernel
theorem dM_placeOf_1 : decode cM_placeOf 1 = .ok (.istore 4, 2) := by decide +kernel
theorem dM_placeOf_3 : decode cM_placeOf 3 = .ok (.iload_n 2, 1) := by decide +kernel
theorem dM_placeOf_4 : decode cM_placeOf 4 = .ok (.iconst 1, 1) := by decide +kernel
theorem dM_placeOf_5 : decode cM_placeOf 5 = .ok (.iadd, 1) := by decide +kernel
theorem dM_placeOf_6 : decode cM_placeOf 6 = .ok (.istore 5, 2) := by decide +kernel
theorem dM_placeOf_8 : decode cM_placeOf 8 = .ok (.iload 5, 2) := by decide +kernel
theorem dM_placeOf_10 : decode cM_placeOf 10 = .ok (.iload_n 3, 1) := by decide +kernel
theorem dM_placeOf_11 : decode cM_placeOf 11 = .ok (.if_icmp .gt 44, 3) := by decide +kernel
theorem dM_placeOf_14 : decode cM_placeOf 14 = .ok (.aload_n 0, 1) := by decide +kernel
theorem dM_placeOf_15 : decode cM_placeOf 15 = .ok (.getfield 7, 3) := by decide +kernel
theorem dM_placeOf_18 : decode cM_placeOf 18 = .ok (.iload 5, 2) := by decide +kernel
theorem dM_placeOf_20 : decode cM_placeOf 20 = .ok (.saload, 1) := by decide +kernel
theorem dM_placeOf_21 : decode cM_placeOf 21 = .ok (.iload_n 1, 1) := by decide +kernel
theorem dM_placeOf_22 : decode cM_placeOf 22 = .ok (.if_icmp .ne 23, 3) := by decide +kernel
theorem dM_placeOf_25 : decode cM_placeOf 25 = .ok (.aload_n 0, 1) := by decide +kernel
theorem dM_placeOf_26 : decode cM_placeOf 26 = .ok (.getfield 27, 3) := by decide +kernel
theorem dM_placeOf_29 : decode cM_placeOf 29 = .ok (.iload 5, 2) := by decide +kernel
theorem dM_placeOf_31 : decode cM_placeOf 31 = .ok (.baload, 1) := by decide +kernel
theorem dM_placeOf_32 : decode cM_placeOf 32 = .ok (.ifCond .ne 13, 3) := by decide +kernel
theorem dM_placeOf_35 : decode cM_placeOf 35 = .ok (.aload_n 0, 1) := by decide +kernel
theorem dM_placeOf_36 : decode cM_placeOf 36 = .ok (.getfield 19, 3) := by decide +kernel
theorem dM_placeOf_39 : decode cM_placeOf 39 = .ok (.iload 5, 2) := by decide +kernel
theorem dM_placeOf_41 : decode cM_placeOf 41 = .ok (.iaload, 1) := by decide +kernel
theorem dM_placeOf_42 : decode cM_placeOf 42 = .ok (.goto 5, 3) := by decide +kernel
theorem dM_placeOf_45 : decode cM_placeOf 45 = .ok (.iload 4, 2) := by decide +kernel
theorem dM_placeOf_47 : decode cM_placeOf 47 = .ok (.istore 4, 2) := by decide +kernel
theorem dM_placeOf_49 : decode cM_placeOf 49 = .ok (.iinc 5 1, 3) := by decide +kernel
theorem dM_placeOf_52 : decode cM_placeOf 52 = .ok (.goto (-44), 3) := by decide +kernel
theorem dM_placeOf_55 : decode cM_placeOf 55 = .ok (.iload 4, 2) := by decide +kernel
theorem dM_placeOf_57 : decode cM_placeOf 57 = .ok (.ireturn, 1) := by decide +kernel
theorem dM_framePlace_0 : decode cM_framePlace 0 = .ok (.aload_n 0, 1) := by decide +kernel
theorem dM_framePlace_1 : decode cM_framePlace 1 = .ok (.aload_n 0, 1) := by decide +kernel
theorem dM_framePlace_2 : decode cM_framePlace 2 = .ok (.getfield 42, 3) := by decide +kernel
theorem dM_framePlace_5 : decode cM_framePlace 5 = .ok (.iload_n 1, 1) := by decide +kernel
theorem dM_framePlace_6 : decode cM_framePlace 6 = .ok (.iaload, 1) := by decide +kernel
theorem dM_framePlace_7 : decode cM_framePlace 7 = .ok (.aload_n 0, 1) := by decide +kernel
theorem dM_framePlace_8 : decode cM_framePlace 8 = .ok (.getfield 57, 3) := by decide +kernel
theorem dM_framePlace_11 : decode cM_framePlace 11 = .ok (.iload_n 1, 1) := by decide +kernel
theorem dM_framePlace_12 : decode cM_framePlace 12 = .ok (.iaload, 1) := by decide +kernel
theorem dM_framePlace_13 : decode cM_framePlace 13 = .ok (.aload_n 0, 1) := by decide +kernel
theorem dM_framePlace_14 : decode cM_framePlace 14 = .ok (.getfield 73, 3) := by decide +kernel
theorem dM_framePlace_17 : decode cM_framePlace 17 = .ok (.invokevirtual 76, 3) := by decide +kernel
theorem dM_framePlace_20 : decode cM_framePlace 20 = .ok (.ireturn, 1) := by decide +kernel
theorem dM_part_0 : decode cM_part 0 = .ok (.iload_n 0, 1) := by decide +kernel
theorem dM_part_1 : decode cM_part 1 = .ok (.bipush 8, 2) := by decide +kernel
theorem dM_part_3 : decode cM_part 3 = .ok (.iload_n 1, 1) := by decide +kernel
theorem dM_part_4 : decode cM_part 4 = .ok (.iconst 1, 1) := by decide +kernel
theorem dM_part_5 : decode cM_part 5 = .ok (.isub, 1) := by decide +kernel
theorem dM_part_6 : decode cM_part 6 = .ok (.iload_n 2, 1) := by decide +kernel
theorem dM_part_7 : decode cM_part 7 = .ok (.isub, 1) := by decide +kernel
theorem dM_part_8 : decode cM_part 8 = .ok (.imul, 1) := by decide +kernel
theorem dM_part_9 : decode cM_part 9 = .ok (.ishr, 1) := by decide +kernel
theorem dM_part_10 : decode cM_part 10 = .ok (.sipush 255, 3) := by decide +kernel
theorem dM_part_13 : decode cM_part 13 = .ok (.iand, 1) := by decide +kernel
theorem dM_part_14 : decode cM_part 14 = .ok (.ireturn, 1) := by decide +kernel
theorem dM_get_0 : decode cM_get 0 = .ok (.aload_n 0, 1) := by decide +kernel
theorem dM_get_1 : decode cM_get 1 = .ok (.iconst 0, 1) := by decide +kernel
theorem dM_get_2 : decode cM_get 2 = .ok (.putfield 67, 3) := by decide +kernel
theorem dM_get_5 : decode cM_get 5 = .ok (.iload_n 1, 1) := by decide +kernel
theorem dM_get_6 : decode cM_get 6 = .ok (.ifCond .lt 29, 3) := by decide +kernel
theorem dM_get_9 : decode cM_get 9 = .ok (.iload_n 1, 1) := by decide +kernel
theorem dM_get_10 : decode cM_get 10 = .ok (.bipush 12, 2) := by decide +kernel
theorem dM_get_12 : decode cM_get 12 = .ok (.if_icmp .ge 23, 3) := by decide +kernel
theorem dM_get_15 : decode cM_get 15 = .ok (.aload_n 0, 1) := by decide +kernel
theorem dM_get_16 : decode cM_get 16 = .ok (.getfield 42, 3) := by decide +kernel
theorem dM_get_19 : decode cM_get 19 = .ok (.iload_n 1, 1) := by decide +kernel
theorem dM_get_20 : decode cM_get 20 = .ok (.iaload, 1) := by decide +kernel
theorem dM_get_21 : decode cM_get 21 = .ok (.ifCond .lt 14, 3) := by decide +kernel
theorem dM_get_24 : decode cM_get 24 = .ok (.iload_n 2, 1) := by decide +kernel
theorem dM_get_25 : decode cM_get 25 = .ok (.ifCond .lt 10, 3) := by decide +kernel
theorem dM_get_28 : decode cM_get 28 = .ok (.iload_n 2, 1) := by decide +kernel
theorem dM_get_29 : decode cM_get 29 = .ok (.sipush 511, 3) := by decide +kernel
theorem dM_get_32 : decode cM_get 32 = .ok (.if_icmp .le 5, 3) := by decide +kernel
theorem dM_get_35 : decode cM_get 35 = .ok (.iconst (-1), 1) := by decide +kernel
theorem dM_get_36 : decode cM_get 36 = .ok (.ireturn, 1) := by decide +kernel
theorem dM_get_37 : decode cM_get 37 = .ok (.iload_n 2, 1) := by decide +kernel
theorem dM_get_38 : decode cM_get 38 = .ok (.iconst 2, 1) := by decide +kernel
theorem dM_get_39 : decode cM_get 39 = .ok (.if_icmp .ge 17, 3) := by decide +kernel
theorem dM_get_42 : decode cM_get 42 = .ok (.aload_n 0, 1) := by decide +kernel
theorem dM_get_43 : decode cM_get 43 = .ok (.getfield 54, 3) := by decide +kernel
theorem dM_get_46 : decode cM_get 46 = .ok (.iload_n 1, 1) := by decide +kernel
theorem dM_get_47 : decode cM_get 47 = .ok (.iaload, 1) := by decide +kernel
theorem dM_get_48 : decode cM_get 48 = .ok (.iconst 2, 1) := by decide +kernel
theorem dM_get_49 : decode cM_get 49 = .ok (.iload_n 2, 1) := by decide +kernel
theorem dM_get_50 : decode cM_get 50 = .ok (.invokestatic 80, 3) := by decide +kernel
theorem dM_get_53 : decode cM_get 53 = .ok (.goto 70, 3) := by decide +kernel
theorem dM_get_56 : decode cM_get 56 = .ok (.iload_n 2, 1) := by decide +kernel
theorem dM_get_57 : decode cM_get 57 = .ok (.sipush 509, 3) := by decide +kernel
theorem dM_get_60 : decode cM_get 60 = .ok (.if_icmp .le 21, 3) := by decide +kernel
theorem dM_get_63 : decode cM_get 63 = .ok (.aload_n 0, 1) := by decide +kernel
theorem dM_get_64 : decode cM_get 64 = .ok (.getfield 54, 3) := by decide +kernel
theorem dM_get_67 : decode cM_get 67 = .ok (.iload_n 1, 1) := by decide +kernel
theorem dM_get_68 : decode cM_get 68 = .ok (.iaload, 1) := by decide +kernel
theorem dM_get_69 : decode cM_get 69 = .ok (.iconst 2, 1) := by decide +kernel
theorem dM_get_70 : decode cM_get 70 = .ok (.iload_n 2, 1) := by decide +kernel
theorem dM_get_71 : decode cM_get 71 = .ok (.sipush 510, 3) := by decide +kernel
theorem dM_get_74 : decode cM_get 74 = .ok (.isub, 1) := by decide +kernel
theorem dM_get_75 : decode cM_get 75 = .ok (.invokestatic 80, 3) := by decide +kernel
theorem dM_get_78 : decode cM_get 78 = .ok (.goto 45, 3) := by decide +kernel
theorem dM_get_81 : decode cM_get 81 = .ok (.iload_n 2, 1) := by decide +kernel
theorem dM_get_82 : decode cM_get 82 = .ok (.bipush 6, 2) := by decide +kernel
theorem dM_get_84 : decode cM_get 84 = .ok (.if_icmp .ge 18, 3) := by decide +kernel
theorem dM_get_87 : decode cM_get 87 = .ok (.aload_n 0, 1) := by decide +kernel
theorem dM_get_88 : decode cM_get 88 = .ok (.iload_n 1, 1) := by decide +kernel
theorem dM_get_89 : decode cM_get 89 = .ok (.invokevirtual 83, 3) := by decide +kernel
theorem dM_get_92 : decode cM_get 92 = .ok (.iconst 4, 1) := by decide +kernel
theorem dM_get_93 : decode cM_get 93 = .ok (.iload_n 2, 1) := by decide +kernel
theorem dM_get_94 : decode cM_get 94 = .ok (.iconst 2, 1) := by decide +kernel
theorem dM_get_95 : decode cM_get 95 = .ok (.isub, 1) := by decide +kernel
theorem dM_get_96 : decode cM_get 96 = .ok (.invokestatic 80, 3) := by decide +kernel
theorem dM_get_99 : decode cM_get 99 = .ok (.goto 24, 3) := by decide +kernel
theorem dM_get_102 : decode cM_get 102 = .ok (.aload_n 0, 1) := by decide +kernel
theorem dM_get_103 : decode cM_get 103 = .ok (.aload_n 0, 1) := by decide +kernel
theorem dM_get_104 : decode cM_get 104 = .ok (.getfield 42, 3) := by decide +kernel
theorem dM_get_107 : decode cM_get 107 = .ok (.iload_n 1, 1) := by decide +kernel
theorem dM_get_108 : decode cM_get 108 = .ok (.iaload, 1) := by decide +kernel
theorem dM_get_109 : decode cM_get 109 = .ok (.iload_n 2, 1) := by decide +kernel
theorem dM_get_110 : decode cM_get 110 = .ok (.aload_n 0, 1) := by decide +kernel
theorem dM_get_111 : decode cM_get 111 = .ok (.getfield 57, 3) := by decide +kernel
theorem dM_get_114 : decode cM_get 114 = .ok (.iload_n 1, 1) := by decide +kernel
theorem dM_get_115 : decode cM_get 115 = .ok (.iaload, 1) := by decide +kernel
theorem dM_get_116 : decode cM_get 116 = .ok (.aload_n 0, 1) := by decide +kernel
theorem dM_get_117 : decode cM_get 117 = .ok (.getfield 73, 3) := by decide +kernel
theorem dM_get_120 : decode cM_get 120 = .ok (.invokevirtual 87, 3) := by decide +kernel
theorem dM_get_123 : decode cM_get 123 = .ok (.ireturn, 1) := by decide +kernel
theorem dM_disk_0 : decode cM_disk 0 = .ok (.aload_n 0, 1) := by decide +kernel
theorem dM_disk_1 : decode cM_disk 1 = .ok (.iconst 0, 1) := by decide +kernel
theorem dM_disk_2 : decode cM_disk 2 = .ok (.putfield 67, 3) := by decide +kernel
theorem dM_disk_5 : decode cM_disk 5 = .ok (.iload_n 1, 1) := by decide +kernel
theorem dM_disk_6 : decode cM_disk 6 = .ok (.invokestatic 91, 3) := by decide +kernel
theorem dM_disk_9 : decode cM_disk 9 = .ok (.ifCond .eq 14, 3) := by decide +kernel
theorem dM_disk_12 : decode cM_disk 12 = .ok (.iload_n 2, 1) := by decide +kernel
theorem dM_disk_13 : decode cM_disk 13 = .ok (.ifCond .lt 10, 3) := by decide +kernel
theorem dM_disk_16 : decode cM_disk 16 = .ok (.iload_n 2, 1) := by decide +kernel
theorem dM_disk_17 : decode cM_disk 17 = .ok (.sipush 511, 3) := by decide +kernel
theorem dM_disk_20 : decode cM_disk 20 = .ok (.if_icmp .le 5, 3) := by decide +kernel
theorem dM_disk_23 : decode cM_disk 23 = .ok (.iconst (-1), 1) := by decide +kernel
theorem dM_disk_24 : decode cM_disk 24 = .ok (.ireturn, 1) := by decide +kernel
theorem dM_disk_25 : decode cM_disk 25 = .ok (.bipush 8, 2) := by decide +kernel
theorem dM_disk_27 : decode cM_disk 27 = .ok (.iload_n 1, 1) := by decide +kernel
theorem dM_disk_28 : decode cM_disk 28 = .ok (.imul, 1) := by decide +kernel
theorem dM_disk_29 : decode cM_disk 29 = .ok (.iload_n 2, 1) := by decide +kernel
theorem dM_disk_30 : decode cM_disk 30 = .ok (.bipush 64, 2) := by decide +kernel
theorem dM_disk_32 : decode cM_disk 32 = .ok (.idiv, 1) := by decide +kernel
theorem dM_disk_33 : decode cM_disk 33 = .ok (.iadd, 1) := by decide +kernel
theorem dM_disk_34 : decode cM_disk 34 = .ok (.istore_n 3, 1) := by decide +kernel
theorem dM_disk_35 : decode cM_disk 35 = .ok (.iload_n 2, 1) := by decide +kernel
theorem dM_disk_36 : decode cM_disk 36 = .ok (.iconst 2, 1) := by decide +kernel
theorem dM_disk_37 : decode cM_disk 37 = .ok (.if_icmp .ge 17, 3) := by decide +kernel
theorem dM_disk_40 : decode cM_disk 40 = .ok (.aload_n 0, 1) := by decide +kernel
theorem dM_disk_41 : decode cM_disk 41 = .ok (.getfield 36, 3) := by decide +kernel
theorem dM_disk_44 : decode cM_disk 44 = .ok (.iload_n 1, 1) := by decide +kernel
theorem dM_disk_45 : decode cM_disk 45 = .ok (.iaload, 1) := by decide +kernel
theorem dM_disk_46 : decode cM_disk 46 = .ok (.iconst 2, 1) := by decide +kernel
theorem dM_disk_47 : decode cM_disk 47 = .ok (.iload_n 2, 1) := by decide +kernel
theorem dM_disk_48 : decode cM_disk 48 = .ok (.invokestatic 80, 3) := by decide +kernel
theorem dM_disk_51 : decode cM_disk 51 = .ok (.goto 79, 3) := by decide +kernel
theorem dM_disk_54 : decode cM_disk 54 = .ok (.iload_n 2, 1) := by decide +kernel
theorem dM_disk_55 : decode cM_disk 55 = .ok (.sipush 509, 3) := by decide +kernel
theorem dM_disk_58 : decode cM_disk 58 = .ok (.if_icmp .le 21, 3) := by decide +kernel
theorem dM_disk_61 : decode cM_disk 61 = .ok (.aload_n 0, 1) := by decide +kernel
theorem dM_disk_62 : decode cM_disk 62 = .ok (.getfield 39, 3) := by decide +kernel
theorem dM_disk_65 : decode cM_disk 65 = .ok (.iload_n 1, 1) := by decide +kernel
theorem dM_disk_66 : decode cM_disk 66 = .ok (.iaload, 1) := by decide +kernel
theorem dM_disk_67 : decode cM_disk 67 = .ok (.iconst 2, 1) := by decide +kernel
theorem dM_disk_68 : decode cM_disk 68 = .ok (.iload_n 2, 1) := by decide +kernel
theorem dM_disk_69 : decode cM_disk 69 = .ok (.sipush 510, 3) := by decide +kernel
theorem dM_disk_72 : decode cM_disk 72 = .ok (.isub, 1) := by decide +kernel
theorem dM_disk_73 : decode cM_disk 73 = .ok (.invokestatic 80, 3) := by decide +kernel
theorem dM_disk_76 : decode cM_disk 76 = .ok (.goto 54, 3) := by decide +kernel
theorem dM_disk_79 : decode cM_disk 79 = .ok (.iload_n 2, 1) := by decide +kernel
theorem dM_disk_80 : decode cM_disk 80 = .ok (.bipush 6, 2) := by decide +kernel
theorem dM_disk_82 : decode cM_disk 82 = .ok (.if_icmp .ge 30, 3) := by decide +kernel
theorem dM_disk_85 : decode cM_disk 85 = .ok (.aload_n 0, 1) := by decide +kernel
theorem dM_disk_86 : decode cM_disk 86 = .ok (.iload_n 1, 1) := by decide +kernel
theorem dM_disk_87 : decode cM_disk 87 = .ok (.aload_n 0, 1) := by decide +kernel
theorem dM_disk_88 : decode cM_disk 88 = .ok (.getfield 30, 3) := by decide +kernel
theorem dM_disk_91 : decode cM_disk 91 = .ok (.iload_n 3, 1) := by decide +kernel
theorem dM_disk_92 : decode cM_disk 92 = .ok (.saload, 1) := by decide +kernel
theorem dM_disk_93 : decode cM_disk 93 = .ok (.aload_n 0, 1) := by decide +kernel
theorem dM_disk_94 : decode cM_disk 94 = .ok (.getfield 33, 3) := by decide +kernel
theorem dM_disk_97 : decode cM_disk 97 = .ok (.iload_n 3, 1) := by decide +kernel
theorem dM_disk_98 : decode cM_disk 98 = .ok (.saload, 1) := by decide +kernel
theorem dM_disk_99 : decode cM_disk 99 = .ok (.invokevirtual 76, 3) := by decide +kernel
theorem dM_disk_102 : decode cM_disk 102 = .ok (.iconst 4, 1) := by decide +kernel
theorem dM_disk_103 : decode cM_disk 103 = .ok (.iload_n 2, 1) := by decide +kernel
theorem dM_disk_104 : decode cM_disk 104 = .ok (.iconst 2, 1) := by decide +kernel
theorem dM_disk_105 : decode cM_disk 105 = .ok (.isub, 1) := by decide +kernel
theorem dM_disk_106 : decode cM_disk 106 = .ok (.invokestatic 80, 3) := by decide +kernel
theorem dM_disk_109 : decode cM_disk 109 = .ok (.goto 21, 3) := by decide +kernel
theorem dM_disk_112 : decode cM_disk 112 = .ok (.aload_n 0, 1) := by decide +kernel
theorem dM_disk_113 : decode cM_disk 113 = .ok (.iload_n 1, 1) := by decide +kernel
theorem dM_disk_114 : decode cM_disk 114 = .ok (.iload_n 2, 1) := by decide +kernel
theorem dM_disk_115 : decode cM_disk 115 = .ok (.aload_n 0, 1) := by decide +kernel
theorem dM_disk_116 : decode cM_disk 116 = .ok (.getfield 30, 3) := by decide +kernel
theorem dM_disk_119 : decode cM_disk 119 = .ok (.iload_n 3, 1) := by decide +kernel
theorem dM_disk_120 : decode cM_disk 120 = .ok (.saload, 1) := by decide +kernel
theorem dM_disk_121 : decode cM_disk 121 = .ok (.aload_n 0, 1) := by decide +kernel
theorem dM_disk_122 : decode cM_disk 122 = .ok (.getfield 33, 3) := by decide +kernel
theorem dM_disk_125 : decode cM_disk 125 = .ok (.iload_n 3, 1) := by decide +kernel
theorem dM_disk_126 : decode cM_disk 126 = .ok (.saload, 1) := by decide +kernel
theorem dM_disk_127 : decode cM_disk 127 = .ok (.invokevirtual 87, 3) := by decide +kernel
theorem dM_disk_130 : decode cM_disk 130 = .ok (.ireturn, 1) := by decide +kernel
theorem dM_torn_0 : decode cM_torn 0 = .ok (.aload_n 0, 1) := by decide +kernel
theorem dM_torn_1 : decode cM_torn 1 = .ok (.iconst 0, 1) := by decide +kernel
theorem dM_torn_2 : decode cM_torn 2 = .ok (.putfield 67, 3) := by decide +kernel
theorem dM_torn_5 : decode cM_torn 5 = .ok (.iload_n 1, 1) := by decide +kernel
theorem dM_torn_6 : decode cM_torn 6 = .ok (.invokestatic 91, 3) := by decide +kernel
theorem dM_torn_9 : decode cM_torn 9 = .ok (.ifCond .eq 15, 3) := by decide +kernel
theorem dM_torn_12 : decode cM_torn 12 = .ok (.aload_n 0, 1) := by decide +kernel
theorem dM_torn_13 : decode cM_torn 13 = .ok (.iload_n 1, 1) := by decide +kernel
theorem dM_torn_14 : decode cM_torn 14 = .ok (.invokevirtual 95, 3) := by decide +kernel
theorem dM_torn_17 : decode cM_torn 17 = .ok (.ifCond .eq 7, 3) := by decide +kernel
theorem dM_torn_20 : decode cM_torn 20 = .ok (.iconst 1, 1) := by decide +kernel
theorem dM_torn_21 : decode cM_torn 21 = .ok (.goto 4, 3) := by decide +kernel
theorem dM_torn_24 : decode cM_torn 24 = .ok (.iconst 0, 1) := by decide +kernel
theorem dM_torn_25 : decode cM_torn 25 = .ok (.ireturn, 1) := by decide +kernel
theorem dM_cut_0 : decode cM_cut 0 = .ok (.iconst 1, 1) := by decide +kernel
theorem dM_cut_1 : decode cM_cut 1 = .ok (.istore_n 1, 1) := by decide +kernel
theorem dM_cut_2 : decode cM_cut 2 = .ok (.iload_n 1, 1) := by decide +kernel
theorem dM_cut_3 : decode cM_cut 3 = .ok (.aload_n 0, 1) := by decide +kernel
theorem dM_cut_4 : decode cM_cut 4 = .ok (.getfield 73, 3) := by decide +kernel
theorem dM_cut_7 : decode cM_cut 7 = .ok (.if_icmp .gt 89, 3) := by decide +kernel
theorem dM_cut_10 : decode cM_cut 10 = .ok (.bipush 8, 2) := by decide +kernel
theorem dM_cut_12 : decode cM_cut 12 = .ok (.aload_n 0, 1) := by decide +kernel
theorem dM_cut_13 : decode cM_cut 13 = .ok (.getfield 7, 3) := by decide +kernel
theorem dM_cut_16 : decode cM_cut 16 = .ok (.iload_n 1, 1) := by decide +kernel
theorem dM_cut_17 : decode cM_cut 17 = .ok (.saload, 1) := by decide +kernel
theorem dM_cut_18 : decode cM_cut 18 = .ok (.imul, 1) := by decide +kernel
theorem dM_cut_19 : decode cM_cut 19 = .ok (.istore_n 2, 1) := by decide +kernel
theorem dM_cut_20 : decode cM_cut 20 = .ok (.aload_n 0, 1) := by decide +kernel
theorem dM_cut_21 : decode cM_cut 21 = .ok (.getfield 23, 3) := by decide +kernel
theorem dM_cut_24 : decode cM_cut 24 = .ok (.iload_n 1, 1) := by decide +kernel
theorem dM_cut_25 : decode cM_cut 25 = .ok (.aload_n 0, 1) := by decide +kernel
theorem dM_cut_26 : decode cM_cut 26 = .ok (.getfield 23, 3) := by decide +kernel
theorem dM_cut_29 : decode cM_cut 29 = .ok (.iload_n 1, 1) := by decide +kernel
theorem dM_cut_30 : decode cM_cut 30 = .ok (.baload, 1) := by decide +kernel
theorem dM_cut_31 : decode cM_cut 31 = .ok (.ifCond .ne 23, 3) := by decide +kernel
theorem dM_cut_34 : decode cM_cut 34 = .ok (.iload_n 1, 1) := by decide +kernel
theorem dM_cut_35 : decode cM_cut 35 = .ok (.aload_n 0, 1) := by decide +kernel
theorem dM_cut_36 : decode cM_cut 36 = .ok (.getfield 33, 3) := by decide +kernel
theorem dM_cut_39 : decode cM_cut 39 = .ok (.iload_n 2, 1) := by decide +kernel
theorem dM_cut_40 : decode cM_cut 40 = .ok (.aload_n 0, 1) := by decide +kernel
theorem dM_cut_41 : decode cM_cut 41 = .ok (.getfield 13, 3) := by decide +kernel
theorem dM_cut_44 : decode cM_cut 44 = .ok (.iload_n 1, 1) := by decide +kernel
theorem dM_cut_45 : decode cM_cut 45 = .ok (.saload, 1) := by decide +kernel
theorem dM_cut_46 : decode cM_cut 46 = .ok (.bipush 64, 2) := by decide +kernel
theorem dM_cut_48 : decode cM_cut 48 = .ok (.idiv, 1) := by decide +kernel
theorem dM_cut_49 : decode cM_cut 49 = .ok (.iadd, 1) := by decide +kernel
theorem dM_cut_50 : decode cM_cut 50 = .ok (.saload, 1) := by decide +kernel
theorem dM_cut_51 : decode cM_cut 51 = .ok (.if_icmp .le 7, 3) := by decide +kernel
theorem dM_cut_54 : decode cM_cut 54 = .ok (.iconst 1, 1) := by decide +kernel
theorem dM_cut_55 : decode cM_cut 55 = .ok (.goto 4, 3) := by decide +kernel
theorem dM_cut_58 : decode cM_cut 58 = .ok (.iconst 0, 1) := by decide +kernel
theorem dM_cut_59 : decode cM_cut 59 = .ok (.bastore, 1) := by decide +kernel
theorem dM_cut_60 : decode cM_cut 60 = .ok (.aload_n 0, 1) := by decide +kernel
theorem dM_cut_61 : decode cM_cut 61 = .ok (.getfield 27, 3) := by decide +kernel
theorem dM_cut_64 : decode cM_cut 64 = .ok (.iload_n 1, 1) := by decide +kernel
theorem dM_cut_65 : decode cM_cut 65 = .ok (.aload_n 0, 1) := by decide +kernel
theorem dM_cut_66 : decode cM_cut 66 = .ok (.getfield 27, 3) := by decide +kernel
theorem dM_cut_69 : decode cM_cut 69 = .ok (.iload_n 1, 1) := by decide +kernel
theorem dM_cut_70 : decode cM_cut 70 = .ok (.baload, 1) := by decide +kernel
theorem dM_cut_71 : decode cM_cut 71 = .ok (.ifCond .ne 13, 3) := by decide +kernel
theorem dM_cut_74 : decode cM_cut 74 = .ok (.iload_n 1, 1) := by decide +kernel
theorem dM_cut_75 : decode cM_cut 75 = .ok (.aload_n 0, 1) := by decide +kernel
theorem dM_cut_76 : decode cM_cut 76 = .ok (.getfield 33, 3) := by decide +kernel
theorem dM_cut_79 : decode cM_cut 79 = .ok (.iload_n 2, 1) := by decide +kernel
theorem dM_cut_80 : decode cM_cut 80 = .ok (.saload, 1) := by decide +kernel
theorem dM_cut_81 : decode cM_cut 81 = .ok (.if_icmp .le 7, 3) := by decide +kernel
theorem dM_cut_84 : decode cM_cut 84 = .ok (.iconst 1, 1) := by decide +kernel
theorem dM_cut_85 : decode cM_cut 85 = .ok (.goto 4, 3) := by decide +kernel
theorem dM_cut_88 : decode cM_cut 88 = .ok (.iconst 0, 1) := by decide +kernel
theorem dM_cut_89 : decode cM_cut 89 = .ok (.bastore, 1) := by decide +kernel
theorem dM_cut_90 : decode cM_cut 90 = .ok (.iinc 1 1, 3) := by decide +kernel
theorem dM_cut_93 : decode cM_cut 93 = .ok (.goto (-91), 3) := by decide +kernel
theorem dM_cut_96 : decode cM_cut 96 = .ok (.aload_n 0, 1) := by decide +kernel
theorem dM_cut_97 : decode cM_cut 97 = .ok (.invokevirtual 64, 3) := by decide +kernel
theorem dM_cut_100 : decode cM_cut 100 = .ok (.return_, 1) := by decide +kernel
theorem dM_write_0 : decode cM_write 0 = .ok (.aload_n 0, 1) := by decide +kernel
theorem dM_write_1 : decode cM_write 1 = .ok (.iload_n 1, 1) := by decide +kernel
theorem dM_write_2 : decode cM_write 2 = .ok (.invokevirtual 83, 3) := by decide +kernel
theorem dM_write_5 : decode cM_write 5 = .ok (.istore_n 2, 1) := by decide +kernel
theorem dM_write_6 : decode cM_write 6 = .ok (.aload_n 0, 1) := by decide +kernel
theorem dM_write_7 : decode cM_write 7 = .ok (.getfield 42, 3) := by decide +kernel
theorem dM_write_10 : decode cM_write 10 = .ok (.iload_n 1, 1) := by decide +kernel
theorem dM_write_11 : decode cM_write 11 = .ok (.iaload, 1) := by decide +kernel
theorem dM_write_12 : decode cM_write 12 = .ok (.istore_n 3, 1) := by decide +kernel
theorem dM_write_13 : decode cM_write 13 = .ok (.aload_n 0, 1) := by decide +kernel
theorem dM_write_14 : decode cM_write 14 = .ok (.iload_n 2, 1) := by decide +kernel
theorem dM_write_15 : decode cM_write 15 = .ok (.aload_n 0, 1) := by decide +kernel
theorem dM_write_16 : decode cM_write 16 = .ok (.getfield 98, 3) := by decide +kernel
theorem dM_write_19 : decode cM_write 19 = .ok (.if_icmp .le 12, 3) := by decide +kernel
theorem dM_write_22 : decode cM_write 22 = .ok (.aload_n 0, 1) := by decide +kernel
theorem dM_write_23 : decode cM_write 23 = .ok (.getfield 101, 3) := by decide +kernel
theorem dM_write_26 : decode cM_write 26 = .ok (.iconst 1, 1) := by decide +kernel
theorem dM_write_27 : decode cM_write 27 = .ok (.iadd, 1) := by decide +kernel
theorem dM_write_28 : decode cM_write 28 = .ok (.goto 7, 3) := by decide +kernel
theorem dM_write_31 : decode cM_write 31 = .ok (.aload_n 0, 1) := by decide +kernel
theorem dM_write_32 : decode cM_write 32 = .ok (.getfield 101, 3) := by decide +kernel
theorem dM_write_35 : decode cM_write 35 = .ok (.putfield 101, 3) := by decide +kernel
theorem dM_write_38 : decode cM_write 38 = .ok (.aload_n 0, 1) := by decide +kernel
theorem dM_write_39 : decode cM_write 39 = .ok (.iload_n 2, 1) := by decide +kernel
theorem dM_write_40 : decode cM_write 40 = .ok (.aload_n 0, 1) := by decide +kernel
theorem dM_write_41 : decode cM_write 41 = .ok (.getfield 98, 3) := by decide +kernel
theorem dM_write_44 : decode cM_write 44 = .ok (.if_icmp .le 7, 3) := by decide +kernel
theorem dM_write_47 : decode cM_write 47 = .ok (.iload_n 2, 1) := by decide +kernel
theorem dM_write_48 : decode cM_write 48 = .ok (.goto 7, 3) := by decide +kernel
theorem dM_write_51 : decode cM_write 51 = .ok (.aload_n 0, 1) := by decide +kernel
theorem dM_write_52 : decode cM_write 52 = .ok (.getfield 98, 3) := by decide +kernel
theorem dM_write_55 : decode cM_write 55 = .ok (.putfield 98, 3) := by decide +kernel
theorem dM_write_58 : decode cM_write 58 = .ok (.aload_n 0, 1) := by decide +kernel
theorem dM_write_59 : decode cM_write 59 = .ok (.getfield 54, 3) := by decide +kernel
theorem dM_write_62 : decode cM_write 62 = .ok (.iload_n 1, 1) := by decide +kernel
theorem dM_write_63 : decode cM_write 63 = .ok (.aload_n 0, 1) := by decide +kernel
theorem dM_write_64 : decode cM_write 64 = .ok (.getfield 54, 3) := by decide +kernel
theorem dM_write_67 : decode cM_write 67 = .ok (.iload_n 1, 1) := by decide +kernel
theorem dM_write_68 : decode cM_write 68 = .ok (.iaload, 1) := by decide +kernel
theorem dM_write_69 : decode cM_write 69 = .ok (.iconst 1, 1) := by decide +kernel
theorem dM_write_70 : decode cM_write 70 = .ok (.iadd, 1) := by decide +kernel
theorem dM_write_71 : decode cM_write 71 = .ok (.ldc 104, 2) := by decide +kernel
theorem dM_write_73 : decode cM_write 73 = .ok (.irem, 1) := by decide +kernel
theorem dM_write_74 : decode cM_write 74 = .ok (.iastore, 1) := by decide +kernel
theorem dM_write_75 : decode cM_write 75 = .ok (.iconst 0, 1) := by decide +kernel
theorem dM_write_76 : decode cM_write 76 = .ok (.istore 4, 2) := by decide +kernel
theorem dM_write_78 : decode cM_write 78 = .ok (.iload 4, 2) := by decide +kernel
theorem dM_write_80 : decode cM_write 80 = .ok (.bipush 8, 2) := by decide +kernel
theorem dM_write_82 : decode cM_write 82 = .ok (.if_icmp .ge 146, 3) := by decide +kernel
theorem dM_write_85 : decode cM_write 85 = .ok (.aload_n 0, 1) := by decide +kernel
theorem dM_write_86 : decode cM_write 86 = .ok (.getfield 60, 3) := by decide +kernel
theorem dM_write_89 : decode cM_write 89 = .ok (.ifCond .ne 9, 3) := by decide +kernel
theorem dM_write_92 : decode cM_write 92 = .ok (.aload_n 0, 1) := by decide +kernel
theorem dM_write_93 : decode cM_write 93 = .ok (.invokevirtual 105, 3) := by decide +kernel
theorem dM_write_96 : decode cM_write 96 = .ok (.iconst 0, 1) := by decide +kernel
theorem dM_write_97 : decode cM_write 97 = .ok (.ireturn, 1) := by decide +kernel
theorem dM_write_98 : decode cM_write 98 = .ok (.aload_n 0, 1) := by decide +kernel
theorem dM_write_99 : decode cM_write 99 = .ok (.aload_n 0, 1) := by decide +kernel
theorem dM_write_100 : decode cM_write 100 = .ok (.getfield 60, 3) := by decide +kernel
theorem dM_write_103 : decode cM_write 103 = .ok (.ifCond .le 12, 3) := by decide +kernel
theorem dM_write_106 : decode cM_write 106 = .ok (.aload_n 0, 1) := by decide +kernel
theorem dM_write_107 : decode cM_write 107 = .ok (.getfield 60, 3) := by decide +kernel
theorem dM_write_110 : decode cM_write 110 = .ok (.iconst 1, 1) := by decide +kernel
theorem dM_write_111 : decode cM_write 111 = .ok (.isub, 1) := by decide +kernel
theorem dM_write_112 : decode cM_write 112 = .ok (.goto 7, 3) := by decide +kernel
theorem dM_write_115 : decode cM_write 115 = .ok (.aload_n 0, 1) := by decide +kernel
theorem dM_write_116 : decode cM_write 116 = .ok (.getfield 60, 3) := by decide +kernel
theorem dM_write_119 : decode cM_write 119 = .ok (.putfield 60, 3) := by decide +kernel
theorem dM_write_122 : decode cM_write 122 = .ok (.aload_n 0, 1) := by decide +kernel
theorem dM_write_123 : decode cM_write 123 = .ok (.dup, 1) := by decide +kernel
theorem dM_write_124 : decode cM_write 124 = .ok (.getfield 108, 3) := by decide +kernel
theorem dM_write_127 : decode cM_write 127 = .ok (.iconst 1, 1) := by decide +kernel
theorem dM_write_128 : decode cM_write 128 = .ok (.iadd, 1) := by decide +kernel
theorem dM_write_129 : decode cM_write 129 = .ok (.putfield 108, 3) := by decide +kernel
theorem dM_write_132 : decode cM_write 132 = .ok (.aload_n 0, 1) := by decide +kernel
theorem dM_write_133 : decode cM_write 133 = .ok (.getfield 30, 3) := by decide +kernel
theorem dM_write_136 : decode cM_write 136 = .ok (.bipush 8, 2) := by decide +kernel
theorem dM_write_138 : decode cM_write 138 = .ok (.iload_n 3, 1) := by decide +kernel
theorem dM_write_139 : decode cM_write 139 = .ok (.imul, 1) := by decide +kernel
theorem dM_write_140 : decode cM_write 140 = .ok (.iload 4, 2) := by decide +kernel
theorem dM_write_142 : decode cM_write 142 = .ok (.iadd, 1) := by decide +kernel
theorem dM_write_143 : decode cM_write 143 = .ok (.aload_n 0, 1) := by decide +kernel
theorem dM_write_144 : decode cM_write 144 = .ok (.getfield 57, 3) := by decide +kernel
theorem dM_write_147 : decode cM_write 147 = .ok (.iload_n 1, 1) := by decide +kernel
theorem dM_write_148 : decode cM_write 148 = .ok (.iaload, 1) := by decide +kernel
theorem dM_write_149 : decode cM_write 149 = .ok (.i2s, 1) := by decide +kernel
theorem dM_write_150 : decode cM_write 150 = .ok (.sastore, 1) := by decide +kernel
theorem dM_write_151 : decode cM_write 151 = .ok (.aload_n 0, 1) := by decide +kernel
theorem dM_write_152 : decode cM_write 152 = .ok (.getfield 33, 3) := by decide +kernel
theorem dM_write_155 : decode cM_write 155 = .ok (.bipush 8, 2) := by decide +kernel
theorem dM_write_157 : decode cM_write 157 = .ok (.iload_n 3, 1) := by decide +kernel
theorem dM_write_158 : decode cM_write 158 = .ok (.imul, 1) := by decide +kernel
theorem dM_write_159 : decode cM_write 159 = .ok (.iload 4, 2) := by decide +kernel
theorem dM_write_161 : decode cM_write 161 = .ok (.iadd, 1) := by decide +kernel
theorem dM_write_162 : decode cM_write 162 = .ok (.aload_n 0, 1) := by decide +kernel
theorem dM_write_163 : decode cM_write 163 = .ok (.getfield 73, 3) := by decide +kernel
theorem dM_write_166 : decode cM_write 166 = .ok (.i2s, 1) := by decide +kernel
theorem dM_write_167 : decode cM_write 167 = .ok (.sastore, 1) := by decide +kernel
theorem dM_write_168 : decode cM_write 168 = .ok (.aload_n 0, 1) := by decide +kernel
theorem dM_write_169 : decode cM_write 169 = .ok (.getfield 36, 3) := by decide +kernel
theorem dM_write_172 : decode cM_write 172 = .ok (.iload_n 3, 1) := by decide +kernel
theorem dM_write_173 : decode cM_write 173 = .ok (.iload 4, 2) := by decide +kernel
theorem dM_write_175 : decode cM_write 175 = .ok (.ifCond .ne 12, 3) := by decide +kernel
theorem dM_write_178 : decode cM_write 178 = .ok (.aload_n 0, 1) := by decide +kernel
theorem dM_write_179 : decode cM_write 179 = .ok (.getfield 54, 3) := by decide +kernel
theorem dM_write_182 : decode cM_write 182 = .ok (.iload_n 1, 1) := by decide +kernel
theorem dM_write_183 : decode cM_write 183 = .ok (.iaload, 1) := by decide +kernel
theorem dM_write_184 : decode cM_write 184 = .ok (.goto 9, 3) := by decide +kernel
theorem dM_write_187 : decode cM_write 187 = .ok (.aload_n 0, 1) := by decide +kernel
theorem dM_write_188 : decode cM_write 188 = .ok (.getfield 36, 3) := by decide +kernel
theorem dM_write_191 : decode cM_write 191 = .ok (.iload_n 3, 1) := by decide +kernel
theorem dM_write_192 : decode cM_write 192 = .ok (.iaload, 1) := by decide +kernel
theorem dM_write_193 : decode cM_write 193 = .ok (.iastore, 1) := by decide +kernel
theorem dM_write_194 : decode cM_write 194 = .ok (.aload_n 0, 1) := by decide +kernel
theorem dM_write_195 : decode cM_write 195 = .ok (.getfield 39, 3) := by decide +kernel
theorem dM_write_198 : decode cM_write 198 = .ok (.iload_n 3, 1) := by decide +kernel
theorem dM_write_199 : decode cM_write 199 = .ok (.iload 4, 2) := by decide +kernel
theorem dM_write_201 : decode cM_write 201 = .ok (.bipush 7, 2) := by decide +kernel
theorem dM_write_203 : decode cM_write 203 = .ok (.if_icmp .ne 12, 3) := by decide +kernel
theorem dM_write_206 : decode cM_write 206 = .ok (.aload_n 0, 1) := by decide +kernel
theorem dM_write_207 : decode cM_write 207 = .ok (.getfield 54, 3) := by decide +kernel
theorem dM_write_210 : decode cM_write 210 = .ok (.iload_n 1, 1) := by decide +kernel
theorem dM_write_211 : decode cM_write 211 = .ok (.iaload, 1) := by decide +kernel
theorem dM_write_212 : decode cM_write 212 = .ok (.goto 9, 3) := by decide +kernel
theorem dM_write_215 : decode cM_write 215 = .ok (.aload_n 0, 1) := by decide +kernel
theorem dM_write_216 : decode cM_write 216 = .ok (.getfield 39, 3) := by decide +kernel
theorem dM_write_219 : decode cM_write 219 = .ok (.iload_n 3, 1) := by decide +kernel
theorem dM_write_220 : decode cM_write 220 = .ok (.iaload, 1) := by decide +kernel
theorem dM_write_221 : decode cM_write 221 = .ok (.iastore, 1) := by decide +kernel
theorem dM_write_222 : decode cM_write 222 = .ok (.iinc 4 1, 3) := by decide +kernel
theorem dM_write_225 : decode cM_write 225 = .ok (.goto (-147), 3) := by decide +kernel
theorem dM_write_228 : decode cM_write 228 = .ok (.aload_n 0, 1) := by decide +kernel
theorem dM_write_229 : decode cM_write 229 = .ok (.getfield 51, 3) := by decide +kernel
theorem dM_write_232 : decode cM_write 232 = .ok (.iload_n 1, 1) := by decide +kernel
theorem dM_write_233 : decode cM_write 233 = .ok (.iconst 0, 1) := by decide +kernel
theorem dM_write_234 : decode cM_write 234 = .ok (.bastore, 1) := by decide +kernel
theorem dM_write_235 : decode cM_write 235 = .ok (.iconst 1, 1) := by decide +kernel
theorem dM_write_236 : decode cM_write 236 = .ok (.ireturn, 1) := by decide +kernel
theorem dM_frameOf_0 : decode cM_frameOf 0 = .ok (.iconst (-1), 1) := by decide +kernel
theorem dM_frameOf_1 : decode cM_frameOf 1 = .ok (.istore_n 2, 1) := by decide +kernel
theorem dM_frameOf_2 : decode cM_frameOf 2 = .ok (.iconst 0, 1) := by decide +kernel
theorem dM_frameOf_3 : decode cM_frameOf 3 = .ok (.istore_n 3, 1) := by decide +kernel
theorem dM_frameOf_4 : decode cM_frameOf 4 = .ok (.iload_n 3, 1) := by decide +kernel
theorem dM_frameOf_5 : decode cM_frameOf 5 = .ok (.bipush 12, 2) := by decide +kernel
theorem dM_frameOf_7 : decode cM_frameOf 7 = .ok (.if_icmp .ge 25, 3) := by decide +kernel
theorem dM_frameOf_10 : decode cM_frameOf 10 = .ok (.aload_n 0, 1) := by decide +kernel
theorem dM_frameOf_11 : decode cM_frameOf 11 = .ok (.getfield 42, 3) := by decide +kernel
theorem dM_frameOf_14 : decode cM_frameOf 14 = .ok (.iload_n 3, 1) := by decide +kernel
theorem dM_frameOf_15 : decode cM_frameOf 15 = .ok (.iaload, 1) := by decide +kernel
theorem dM_frameOf_16 : decode cM_frameOf 16 = .ok (.iload_n 1, 1) := by decide +kernel
theorem dM_frameOf_17 : decode cM_frameOf 17 = .ok (.if_icmp .ne 7, 3) := by decide +kernel
theorem dM_frameOf_20 : decode cM_frameOf 20 = .ok (.iload_n 3, 1) := by decide +kernel
theorem dM_frameOf_21 : decode cM_frameOf 21 = .ok (.goto 4, 3) := by decide +kernel
theorem dM_frameOf_24 : decode cM_frameOf 24 = .ok (.iload_n 2, 1) := by decide +kernel
theorem dM_frameOf_25 : decode cM_frameOf 25 = .ok (.istore_n 2, 1) := by decide +kernel
theorem dM_frameOf_26 : decode cM_frameOf 26 = .ok (.iinc 3 1, 3) := by decide +kernel
theorem dM_frameOf_29 : decode cM_frameOf 29 = .ok (.goto (-25), 3) := by decide +kernel
theorem dM_frameOf_32 : decode cM_frameOf 32 = .ok (.iload_n 2, 1) := by decide +kernel
theorem dM_frameOf_33 : decode cM_frameOf 33 = .ok (.ireturn, 1) := by decide +kernel
theorem dM_allPinned_0 : decode cM_allPinned 0 = .ok (.iconst 1, 1) := by decide +kernel
theorem dM_allPinned_1 : decode cM_allPinned 1 = .ok (.istore_n 1, 1) := by decide +kernel
theorem dM_allPinned_2 : decode cM_allPinned 2 = .ok (.iconst 0, 1) := by decide +kernel
theorem dM_allPinned_3 : decode cM_allPinned 3 = .ok (.istore_n 2, 1) := by decide +kernel
theorem dM_allPinned_4 : decode cM_allPinned 4 = .ok (.iload_n 2, 1) := by decide +kernel
theorem dM_allPinned_5 : decode cM_allPinned 5 = .ok (.bipush 12, 2) := by decide +kernel
theorem dM_allPinned_7 : decode cM_allPinned 7 = .ok (.if_icmp .ge 37, 3) := by decide +kernel
theorem dM_allPinned_10 : decode cM_allPinned 10 = .ok (.iload_n 1, 1) := by decide +kernel
theorem dM_allPinned_11 : decode cM_allPinned 11 = .ok (.ifCond .eq 25, 3) := by decide +kernel
theorem dM_allPinned_14 : decode cM_allPinned 14 = .ok (.aload_n 0, 1) := by decide +kernel
theorem dM_allPinned_15 : decode cM_allPinned 15 = .ok (.getfield 42, 3) := by decide +kernel
theorem dM_allPinned_18 : decode cM_allPinned 18 = .ok (.iload_n 2, 1) := by decide +kernel
theorem dM_allPinned_19 : decode cM_allPinned 19 = .ok (.iaload, 1) := by decide +kernel
theorem dM_allPinned_20 : decode cM_allPinned 20 = .ok (.ifCond .lt 16, 3) := by decide +kernel
theorem dM_allPinned_23 : decode cM_allPinned 23 = .ok (.aload_n 0, 1) := by decide +kernel
theorem dM_allPinned_24 : decode cM_allPinned 24 = .ok (.getfield 45, 3) := by decide +kernel
theorem dM_allPinned_27 : decode cM_allPinned 27 = .ok (.iload_n 2, 1) := by decide +kernel
theorem dM_allPinned_28 : decode cM_allPinned 28 = .ok (.iaload, 1) := by decide +kernel
theorem dM_allPinned_29 : decode cM_allPinned 29 = .ok (.ifCond .le 7, 3) := by decide +kernel
theorem dM_allPinned_32 : decode cM_allPinned 32 = .ok (.iconst 1, 1) := by decide +kernel
theorem dM_allPinned_33 : decode cM_allPinned 33 = .ok (.goto 4, 3) := by decide +kernel
theorem dM_allPinned_36 : decode cM_allPinned 36 = .ok (.iconst 0, 1) := by decide +kernel
theorem dM_allPinned_37 : decode cM_allPinned 37 = .ok (.istore_n 1, 1) := by decide +kernel
theorem dM_allPinned_38 : decode cM_allPinned 38 = .ok (.iinc 2 1, 3) := by decide +kernel
theorem dM_allPinned_41 : decode cM_allPinned 41 = .ok (.goto (-37), 3) := by decide +kernel
theorem dM_allPinned_44 : decode cM_allPinned 44 = .ok (.iload_n 1, 1) := by decide +kernel
theorem dM_allPinned_45 : decode cM_allPinned 45 = .ok (.ireturn, 1) := by decide +kernel
theorem dM_found_0 : decode cM_found 0 = .ok (.iconst 0, 1) := by decide +kernel
theorem dM_found_1 : decode cM_found 1 = .ok (.istore_n 1, 1) := by decide +kernel
theorem dM_found_2 : decode cM_found 2 = .ok (.iload_n 1, 1) := by decide +kernel
theorem dM_found_3 : decode cM_found 3 = .ok (.bipush 12, 2) := by decide +kernel
theorem dM_found_5 : decode cM_found 5 = .ok (.if_icmp .ge 20, 3) := by decide +kernel
theorem dM_found_8 : decode cM_found 8 = .ok (.aload_n 0, 1) := by decide +kernel
theorem dM_found_9 : decode cM_found 9 = .ok (.getfield 42, 3) := by decide +kernel
theorem dM_found_12 : decode cM_found 12 = .ok (.iload_n 1, 1) := by decide +kernel
theorem dM_found_13 : decode cM_found 13 = .ok (.iaload, 1) := by decide +kernel
theorem dM_found_14 : decode cM_found 14 = .ok (.ifCond .ge 5, 3) := by decide +kernel
theorem dM_found_17 : decode cM_found 17 = .ok (.iload_n 1, 1) := by decide +kernel
theorem dM_found_18 : decode cM_found 18 = .ok (.ireturn, 1) := by decide +kernel
theorem dM_found_19 : decode cM_found 19 = .ok (.iinc 1 1, 3) := by decide +kernel
theorem dM_found_22 : decode cM_found 22 = .ok (.goto (-20), 3) := by decide +kernel
theorem dM_found_25 : decode cM_found 25 = .ok (.iconst (-1), 1) := by decide +kernel
theorem dM_found_26 : decode cM_found 26 = .ok (.istore_n 1, 1) := by decide +kernel
theorem dM_found_27 : decode cM_found 27 = .ok (.iconst 0, 1) := by decide +kernel
theorem dM_found_28 : decode cM_found 28 = .ok (.istore_n 2, 1) := by decide +kernel
theorem dM_found_29 : decode cM_found 29 = .ok (.iload_n 2, 1) := by decide +kernel
theorem dM_found_30 : decode cM_found 30 = .ok (.bipush 60, 2) := by decide +kernel
theorem dM_found_32 : decode cM_found 32 = .ok (.if_icmp .ge 83, 3) := by decide +kernel
theorem dM_found_35 : decode cM_found 35 = .ok (.iload_n 1, 1) := by decide +kernel
theorem dM_found_36 : decode cM_found 36 = .ok (.ifCond .ge 79, 3) := by decide +kernel
theorem dM_found_39 : decode cM_found 39 = .ok (.aload_n 0, 1) := by decide +kernel
theorem dM_found_40 : decode cM_found 40 = .ok (.getfield 45, 3) := by decide +kernel
theorem dM_found_43 : decode cM_found 43 = .ok (.aload_n 0, 1) := by decide +kernel
theorem dM_found_44 : decode cM_found 44 = .ok (.getfield 70, 3) := by decide +kernel
theorem dM_found_47 : decode cM_found 47 = .ok (.iaload, 1) := by decide +kernel
theorem dM_found_48 : decode cM_found 48 = .ok (.ifCond .ne 23, 3) := by decide +kernel
theorem dM_found_51 : decode cM_found 51 = .ok (.aload_n 0, 1) := by decide +kernel
theorem dM_found_52 : decode cM_found 52 = .ok (.getfield 48, 3) := by decide +kernel
theorem dM_found_55 : decode cM_found 55 = .ok (.aload_n 0, 1) := by decide +kernel
theorem dM_found_56 : decode cM_found 56 = .ok (.getfield 70, 3) := by decide +kernel
theorem dM_found_59 : decode cM_found 59 = .ok (.iaload, 1) := by decide +kernel
theorem dM_found_60 : decode cM_found 60 = .ok (.ifCond .ne 11, 3) := by decide +kernel
theorem dM_found_63 : decode cM_found 63 = .ok (.aload_n 0, 1) := by decide +kernel
theorem dM_found_64 : decode cM_found 64 = .ok (.getfield 70, 3) := by decide +kernel
theorem dM_found_67 : decode cM_found 67 = .ok (.istore_n 1, 1) := by decide +kernel
theorem dM_found_68 : decode cM_found 68 = .ok (.goto 28, 3) := by decide +kernel
theorem dM_found_71 : decode cM_found 71 = .ok (.aload_n 0, 1) := by decide +kernel
theorem dM_found_72 : decode cM_found 72 = .ok (.getfield 45, 3) := by decide +kernel
theorem dM_found_75 : decode cM_found 75 = .ok (.aload_n 0, 1) := by decide +kernel
theorem dM_found_76 : decode cM_found 76 = .ok (.getfield 70, 3) := by decide +kernel
theorem dM_found_79 : decode cM_found 79 = .ok (.iaload, 1) := by decide +kernel
theorem dM_found_80 : decode cM_found 80 = .ok (.ifCond .ne 16, 3) := by decide +kernel
theorem dM_found_83 : decode cM_found 83 = .ok (.aload_n 0, 1) := by decide +kernel
theorem dM_found_84 : decode cM_found 84 = .ok (.getfield 48, 3) := by decide +kernel
theorem dM_found_87 : decode cM_found 87 = .ok (.aload_n 0, 1) := by decide +kernel
theorem dM_found_88 : decode cM_found 88 = .ok (.getfield 70, 3) := by decide +kernel
theorem dM_found_91 : decode cM_found 91 = .ok (.dup2, 1) := by decide +kernel
theorem dM_found_92 : decode cM_found 92 = .ok (.iaload, 1) := by decide +kernel
theorem dM_found_93 : decode cM_found 93 = .ok (.iconst 1, 1) := by decide +kernel
theorem dM_found_94 : decode cM_found 94 = .ok (.isub, 1) := by decide +kernel
theorem dM_found_95 : decode cM_found 95 = .ok (.iastore, 1) := by decide +kernel
theorem dM_found_96 : decode cM_found 96 = .ok (.aload_n 0, 1) := by decide +kernel
theorem dM_found_97 : decode cM_found 97 = .ok (.aload_n 0, 1) := by decide +kernel
theorem dM_found_98 : decode cM_found 98 = .ok (.getfield 70, 3) := by decide +kernel
theorem dM_found_101 : decode cM_found 101 = .ok (.iconst 1, 1) := by decide +kernel
theorem dM_found_102 : decode cM_found 102 = .ok (.iadd, 1) := by decide +kernel
theorem dM_found_103 : decode cM_found 103 = .ok (.bipush 12, 2) := by decide +kernel
theorem dM_found_105 : decode cM_found 105 = .ok (.irem, 1) := by decide +kernel
theorem dM_found_106 : decode cM_found 106 = .ok (.putfield 70, 3) := by decide +kernel
theorem dM_found_109 : decode cM_found 109 = .ok (.iinc 2 1, 3) := by decide +kernel
theorem dM_found_112 : decode cM_found 112 = .ok (.goto (-83), 3) := by decide +kernel
theorem dM_found_115 : decode cM_found 115 = .ok (.aload_n 0, 1) := by decide +kernel
theorem dM_found_116 : decode cM_found 116 = .ok (.getfield 51, 3) := by decide +kernel
theorem dM_found_119 : decode cM_found 119 = .ok (.iload_n 1, 1) := by decide +kernel
theorem dM_found_120 : decode cM_found 120 = .ok (.baload, 1) := by decide +kernel
theorem dM_found_121 : decode cM_found 121 = .ok (.ifCond .eq 15, 3) := by decide +kernel
theorem dM_found_124 : decode cM_found 124 = .ok (.aload_n 0, 1) := by decide +kernel
theorem dM_found_125 : decode cM_found 125 = .ok (.iload_n 1, 1) := by decide +kernel
theorem dM_found_126 : decode cM_found 126 = .ok (.invokevirtual 111, 3) := by decide +kernel
theorem dM_found_129 : decode cM_found 129 = .ok (.ifCond .ne 7, 3) := by decide +kernel
theorem dM_found_132 : decode cM_found 132 = .ok (.iconst (-1), 1) := by decide +kernel
theorem dM_found_133 : decode cM_found 133 = .ok (.goto 4, 3) := by decide +kernel
theorem dM_found_136 : decode cM_found 136 = .ok (.iload_n 1, 1) := by decide +kernel
theorem dM_found_137 : decode cM_found 137 = .ok (.ireturn, 1) := by decide +kernel
theorem dM_fill_0 : decode cM_fill 0 = .ok (.aload_n 0, 1) := by decide +kernel
theorem dM_fill_1 : decode cM_fill 1 = .ok (.getfield 42, 3) := by decide +kernel
theorem dM_fill_4 : decode cM_fill 4 = .ok (.iload_n 1, 1) := by decide +kernel
theorem dM_fill_5 : decode cM_fill 5 = .ok (.iload_n 2, 1) := by decide +kernel
theorem dM_fill_6 : decode cM_fill 6 = .ok (.iastore, 1) := by decide +kernel
theorem dM_fill_7 : decode cM_fill 7 = .ok (.aload_n 0, 1) := by decide +kernel
theorem dM_fill_8 : decode cM_fill 8 = .ok (.getfield 45, 3) := by decide +kernel
theorem dM_fill_11 : decode cM_fill 11 = .ok (.iload_n 1, 1) := by decide +kernel
theorem dM_fill_12 : decode cM_fill 12 = .ok (.iconst 1, 1) := by decide +kernel
theorem dM_fill_13 : decode cM_fill 13 = .ok (.iastore, 1) := by decide +kernel
theorem dM_fill_14 : decode cM_fill 14 = .ok (.aload_n 0, 1) := by decide +kernel
theorem dM_fill_15 : decode cM_fill 15 = .ok (.getfield 48, 3) := by decide +kernel
theorem dM_fill_18 : decode cM_fill 18 = .ok (.iload_n 1, 1) := by decide +kernel
theorem dM_fill_19 : decode cM_fill 19 = .ok (.iconst 1, 1) := by decide +kernel
theorem dM_fill_20 : decode cM_fill 20 = .ok (.iastore, 1) := by decide +kernel
theorem dM_fill_21 : decode cM_fill 21 = .ok (.aload_n 0, 1) := by decide +kernel
theorem dM_fill_22 : decode cM_fill 22 = .ok (.getfield 51, 3) := by decide +kernel
theorem dM_fill_25 : decode cM_fill 25 = .ok (.iload_n 1, 1) := by decide +kernel
theorem dM_fill_26 : decode cM_fill 26 = .ok (.iconst 0, 1) := by decide +kernel
theorem dM_fill_27 : decode cM_fill 27 = .ok (.bastore, 1) := by decide +kernel
theorem dM_fill_28 : decode cM_fill 28 = .ok (.aload_n 0, 1) := by decide +kernel
theorem dM_fill_29 : decode cM_fill 29 = .ok (.getfield 54, 3) := by decide +kernel
theorem dM_fill_32 : decode cM_fill 32 = .ok (.iload_n 1, 1) := by decide +kernel
theorem dM_fill_33 : decode cM_fill 33 = .ok (.aload_n 0, 1) := by decide +kernel
theorem dM_fill_34 : decode cM_fill 34 = .ok (.getfield 36, 3) := by decide +kernel
theorem dM_fill_37 : decode cM_fill 37 = .ok (.iload_n 2, 1) := by decide +kernel
theorem dM_fill_38 : decode cM_fill 38 = .ok (.iaload, 1) := by decide +kernel
theorem dM_fill_39 : decode cM_fill 39 = .ok (.iastore, 1) := by decide +kernel
theorem dM_fill_40 : decode cM_fill 40 = .ok (.aload_n 0, 1) := by decide +kernel
theorem dM_fill_41 : decode cM_fill 41 = .ok (.getfield 57, 3) := by decide +kernel
theorem dM_fill_44 : decode cM_fill 44 = .ok (.iload_n 1, 1) := by decide +kernel
theorem dM_fill_45 : decode cM_fill 45 = .ok (.iload_n 3, 1) := by decide +kernel
theorem dM_fill_46 : decode cM_fill 46 = .ok (.iastore, 1) := by decide +kernel
theorem dM_fill_47 : decode cM_fill 47 = .ok (.return_, 1) := by decide +kernel
theorem dM_pin_0 : decode cM_pin 0 = .ok (.aload_n 0, 1) := by decide +kernel
theorem dM_pin_1 : decode cM_pin 1 = .ok (.iconst 0, 1) := by decide +kernel
theorem dM_pin_2 : decode cM_pin 2 = .ok (.putfield 67, 3) := by decide +kernel
theorem dM_pin_5 : decode cM_pin 5 = .ok (.iload_n 1, 1) := by decide +kernel
theorem dM_pin_6 : decode cM_pin 6 = .ok (.invokestatic 91, 3) := by decide +kernel
theorem dM_pin_9 : decode cM_pin 9 = .ok (.ifCond .ne 9, 3) := by decide +kernel
theorem dM_pin_12 : decode cM_pin 12 = .ok (.aload_n 0, 1) := by decide +kernel
theorem dM_pin_13 : decode cM_pin 13 = .ok (.iconst 1, 1) := by decide +kernel
theorem dM_pin_14 : decode cM_pin 14 = .ok (.invokevirtual 114, 3) := by decide +kernel
theorem dM_pin_17 : decode cM_pin 17 = .ok (.ireturn, 1) := by decide +kernel
theorem dM_pin_18 : decode cM_pin 18 = .ok (.aload_n 0, 1) := by decide +kernel
theorem dM_pin_19 : decode cM_pin 19 = .ok (.iload_n 1, 1) := by decide +kernel
theorem dM_pin_20 : decode cM_pin 20 = .ok (.invokevirtual 117, 3) := by decide +kernel
theorem dM_pin_23 : decode cM_pin 23 = .ok (.istore_n 2, 1) := by decide +kernel
theorem dM_pin_24 : decode cM_pin 24 = .ok (.iload_n 2, 1) := by decide +kernel
theorem dM_pin_25 : decode cM_pin 25 = .ok (.ifCond .lt 43, 3) := by decide +kernel
theorem dM_pin_28 : decode cM_pin 28 = .ok (.aload_n 0, 1) := by decide +kernel
theorem dM_pin_29 : decode cM_pin 29 = .ok (.getfield 45, 3) := by decide +kernel
theorem dM_pin_32 : decode cM_pin 32 = .ok (.iload_n 2, 1) := by decide +kernel
theorem dM_pin_33 : decode cM_pin 33 = .ok (.dup2, 1) := by decide +kernel
theorem dM_pin_34 : decode cM_pin 34 = .ok (.iaload, 1) := by decide +kernel
theorem dM_pin_35 : decode cM_pin 35 = .ok (.iconst 1, 1) := by decide +kernel
theorem dM_pin_36 : decode cM_pin 36 = .ok (.iadd, 1) := by decide +kernel
theorem dM_pin_37 : decode cM_pin 37 = .ok (.iastore, 1) := by decide +kernel
theorem dM_pin_38 : decode cM_pin 38 = .ok (.aload_n 0, 1) := by decide +kernel
theorem dM_pin_39 : decode cM_pin 39 = .ok (.getfield 48, 3) := by decide +kernel
theorem dM_pin_42 : decode cM_pin 42 = .ok (.iload_n 2, 1) := by decide +kernel
theorem dM_pin_43 : decode cM_pin 43 = .ok (.aload_n 0, 1) := by decide +kernel
theorem dM_pin_44 : decode cM_pin 44 = .ok (.getfield 48, 3) := by decide +kernel
theorem dM_pin_47 : decode cM_pin 47 = .ok (.iload_n 2, 1) := by decide +kernel
theorem dM_pin_48 : decode cM_pin 48 = .ok (.iaload, 1) := by decide +kernel
theorem dM_pin_49 : decode cM_pin 49 = .ok (.iconst 3, 1) := by decide +kernel
theorem dM_pin_50 : decode cM_pin 50 = .ok (.if_icmp .ge 14, 3) := by decide +kernel
theorem dM_pin_53 : decode cM_pin 53 = .ok (.aload_n 0, 1) := by decide +kernel
theorem dM_pin_54 : decode cM_pin 54 = .ok (.getfield 48, 3) := by decide +kernel
theorem dM_pin_57 : decode cM_pin 57 = .ok (.iload_n 2, 1) := by decide +kernel
theorem dM_pin_58 : decode cM_pin 58 = .ok (.iaload, 1) := by decide +kernel
theorem dM_pin_59 : decode cM_pin 59 = .ok (.iconst 1, 1) := by decide +kernel
theorem dM_pin_60 : decode cM_pin 60 = .ok (.iadd, 1) := by decide +kernel
theorem dM_pin_61 : decode cM_pin 61 = .ok (.goto 4, 3) := by decide +kernel
theorem dM_pin_64 : decode cM_pin 64 = .ok (.iconst 3, 1) := by decide +kernel
theorem dM_pin_65 : decode cM_pin 65 = .ok (.iastore, 1) := by decide +kernel
theorem dM_pin_66 : decode cM_pin 66 = .ok (.iload_n 2, 1) := by decide +kernel
theorem dM_pin_67 : decode cM_pin 67 = .ok (.ireturn, 1) := by decide +kernel
theorem dM_pin_68 : decode cM_pin 68 = .ok (.aload_n 0, 1) := by decide +kernel
theorem dM_pin_69 : decode cM_pin 69 = .ok (.invokevirtual 120, 3) := by decide +kernel
theorem dM_pin_72 : decode cM_pin 72 = .ok (.ifCond .ne 11, 3) := by decide +kernel
theorem dM_pin_75 : decode cM_pin 75 = .ok (.aload_n 0, 1) := by decide +kernel
theorem dM_pin_76 : decode cM_pin 76 = .ok (.iload_n 1, 1) := by decide +kernel
theorem dM_pin_77 : decode cM_pin 77 = .ok (.invokevirtual 95, 3) := by decide +kernel
theorem dM_pin_80 : decode cM_pin 80 = .ok (.ifCond .eq 20, 3) := by decide +kernel
theorem dM_pin_83 : decode cM_pin 83 = .ok (.aload_n 0, 1) := by decide +kernel
theorem dM_pin_84 : decode cM_pin 84 = .ok (.aload_n 0, 1) := by decide +kernel
theorem dM_pin_85 : decode cM_pin 85 = .ok (.invokevirtual 120, 3) := by decide +kernel
theorem dM_pin_88 : decode cM_pin 88 = .ok (.ifCond .eq 7, 3) := by decide +kernel
theorem dM_pin_91 : decode cM_pin 91 = .ok (.iconst 2, 1) := by decide +kernel
theorem dM_pin_92 : decode cM_pin 92 = .ok (.goto 4, 3) := by decide +kernel
theorem dM_pin_95 : decode cM_pin 95 = .ok (.iconst 3, 1) := by decide +kernel
theorem dM_pin_96 : decode cM_pin 96 = .ok (.invokevirtual 114, 3) := by decide +kernel
theorem dM_pin_99 : decode cM_pin 99 = .ok (.ireturn, 1) := by decide +kernel
theorem dM_pin_100 : decode cM_pin 100 = .ok (.aload_n 0, 1) := by decide +kernel
theorem dM_pin_101 : decode cM_pin 101 = .ok (.invokevirtual 124, 3) := by decide +kernel
theorem dM_pin_104 : decode cM_pin 104 = .ok (.istore_n 2, 1) := by decide +kernel
theorem dM_pin_105 : decode cM_pin 105 = .ok (.iload_n 2, 1) := by decide +kernel
theorem dM_pin_106 : decode cM_pin 106 = .ok (.ifCond .ge 9, 3) := by decide +kernel
theorem dM_pin_109 : decode cM_pin 109 = .ok (.aload_n 0, 1) := by decide +kernel
theorem dM_pin_110 : decode cM_pin 110 = .ok (.iconst 4, 1) := by decide +kernel
theorem dM_pin_111 : decode cM_pin 111 = .ok (.invokevirtual 114, 3) := by decide +kernel
theorem dM_pin_114 : decode cM_pin 114 = .ok (.ireturn, 1) := by decide +kernel
theorem dM_pin_115 : decode cM_pin 115 = .ok (.aload_n 0, 1) := by decide +kernel
theorem dM_pin_116 : decode cM_pin 116 = .ok (.dup, 1) := by decide +kernel
theorem dM_pin_117 : decode cM_pin 117 = .ok (.getfield 128, 3) := by decide +kernel
theorem dM_pin_120 : decode cM_pin 120 = .ok (.iconst 1, 1) := by decide +kernel
theorem dM_pin_121 : decode cM_pin 121 = .ok (.iadd, 1) := by decide +kernel
theorem dM_pin_122 : decode cM_pin 122 = .ok (.putfield 128, 3) := by decide +kernel
theorem dM_pin_125 : decode cM_pin 125 = .ok (.aload_n 0, 1) := by decide +kernel
theorem dM_pin_126 : decode cM_pin 126 = .ok (.iload_n 2, 1) := by decide +kernel
theorem dM_pin_127 : decode cM_pin 127 = .ok (.iload_n 1, 1) := by decide +kernel
theorem dM_pin_128 : decode cM_pin 128 = .ok (.aload_n 0, 1) := by decide +kernel
theorem dM_pin_129 : decode cM_pin 129 = .ok (.getfield 30, 3) := by decide +kernel
theorem dM_pin_132 : decode cM_pin 132 = .ok (.bipush 8, 2) := by decide +kernel
theorem dM_pin_134 : decode cM_pin 134 = .ok (.iload_n 1, 1) := by decide +kernel
theorem dM_pin_135 : decode cM_pin 135 = .ok (.imul, 1) := by decide +kernel
theorem dM_pin_136 : decode cM_pin 136 = .ok (.saload, 1) := by decide +kernel
theorem dM_pin_137 : decode cM_pin 137 = .ok (.invokevirtual 131, 3) := by decide +kernel
theorem dM_pin_140 : decode cM_pin 140 = .ok (.iload_n 2, 1) := by decide +kernel
theorem dM_pin_141 : decode cM_pin 141 = .ok (.ireturn, 1) := by decide +kernel
theorem dM_remake_0 : decode cM_remake 0 = .ok (.aload_n 0, 1) := by decide +kernel
theorem dM_remake_1 : decode cM_remake 1 = .ok (.iconst 0, 1) := by decide +kernel
theorem dM_remake_2 : decode cM_remake 2 = .ok (.putfield 67, 3) := by decide +kernel
theorem dM_remake_5 : decode cM_remake 5 = .ok (.iload_n 1, 1) := by decide +kernel
theorem dM_remake_6 : decode cM_remake 6 = .ok (.invokestatic 91, 3) := by decide +kernel
theorem dM_remake_9 : decode cM_remake 9 = .ok (.ifCond .ne 9, 3) := by decide +kernel
theorem dM_remake_12 : decode cM_remake 12 = .ok (.aload_n 0, 1) := by decide +kernel
theorem dM_remake_13 : decode cM_remake 13 = .ok (.iconst 1, 1) := by decide +kernel
theorem dM_remake_14 : decode cM_remake 14 = .ok (.invokevirtual 114, 3) := by decide +kernel
theorem dM_remake_17 : decode cM_remake 17 = .ok (.ireturn, 1) := by decide +kernel
theorem dM_remake_18 : decode cM_remake 18 = .ok (.aload_n 0, 1) := by decide +kernel
theorem dM_remake_19 : decode cM_remake 19 = .ok (.iload_n 1, 1) := by decide +kernel
theorem dM_remake_20 : decode cM_remake 20 = .ok (.invokevirtual 117, 3) := by decide +kernel
theorem dM_remake_23 : decode cM_remake 23 = .ok (.ifCond .ge 10, 3) := by decide +kernel
theorem dM_remake_26 : decode cM_remake 26 = .ok (.aload_n 0, 1) := by decide +kernel
theorem dM_remake_27 : decode cM_remake 27 = .ok (.invokevirtual 120, 3) := by decide +kernel
theorem dM_remake_30 : decode cM_remake 30 = .ok (.ifCond .eq 9, 3) := by decide +kernel
theorem dM_remake_33 : decode cM_remake 33 = .ok (.aload_n 0, 1) := by decide +kernel
theorem dM_remake_34 : decode cM_remake 34 = .ok (.iconst 2, 1) := by decide +kernel
theorem dM_remake_35 : decode cM_remake 35 = .ok (.invokevirtual 114, 3) := by decide +kernel
theorem dM_remake_38 : decode cM_remake 38 = .ok (.ireturn, 1) := by decide +kernel
theorem dM_remake_39 : decode cM_remake 39 = .ok (.aload_n 0, 1) := by decide +kernel
theorem dM_remake_40 : decode cM_remake 40 = .ok (.invokevirtual 124, 3) := by decide +kernel
theorem dM_remake_43 : decode cM_remake 43 = .ok (.istore_n 2, 1) := by decide +kernel
theorem dM_remake_44 : decode cM_remake 44 = .ok (.iload_n 2, 1) := by decide +kernel
theorem dM_remake_45 : decode cM_remake 45 = .ok (.ifCond .ge 9, 3) := by decide +kernel
theorem dM_remake_48 : decode cM_remake 48 = .ok (.aload_n 0, 1) := by decide +kernel
theorem dM_remake_49 : decode cM_remake 49 = .ok (.iconst 3, 1) := by decide +kernel
theorem dM_remake_50 : decode cM_remake 50 = .ok (.invokevirtual 114, 3) := by decide +kernel
theorem dM_remake_53 : decode cM_remake 53 = .ok (.ireturn, 1) := by decide +kernel
theorem dM_remake_54 : decode cM_remake 54 = .ok (.aload_n 0, 1) := by decide +kernel
theorem dM_remake_55 : decode cM_remake 55 = .ok (.iload_n 2, 1) := by decide +kernel
theorem dM_remake_56 : decode cM_remake 56 = .ok (.iload_n 1, 1) := by decide +kernel
theorem dM_remake_57 : decode cM_remake 57 = .ok (.aload_n 0, 1) := by decide +kernel
theorem dM_remake_58 : decode cM_remake 58 = .ok (.getfield 73, 3) := by decide +kernel
theorem dM_remake_61 : decode cM_remake 61 = .ok (.invokevirtual 131, 3) := by decide +kernel
theorem dM_remake_64 : decode cM_remake 64 = .ok (.iload_n 2, 1) := by decide +kernel
theorem dM_remake_65 : decode cM_remake 65 = .ok (.ireturn, 1) := by decide +kernel
theorem dM_isPinned_0 : decode cM_isPinned 0 = .ok (.iload_n 1, 1) := by decide +kernel
theorem dM_isPinned_1 : decode cM_isPinned 1 = .ok (.ifCond .lt 31, 3) := by decide +kernel
theorem dM_isPinned_4 : decode cM_isPinned 4 = .ok (.iload_n 1, 1) := by decide +kernel
theorem dM_isPinned_5 : decode cM_isPinned 5 = .ok (.bipush 12, 2) := by decide +kernel
theorem dM_isPinned_7 : decode cM_isPinned 7 = .ok (.if_icmp .ge 25, 3) := by decide +kernel
theorem dM_isPinned_10 : decode cM_isPinned 10 = .ok (.aload_n 0, 1) := by decide +kernel
theorem dM_isPinned_11 : decode cM_isPinned 11 = .ok (.getfield 42, 3) := by decide +kernel
theorem dM_isPinned_14 : decode cM_isPinned 14 = .ok (.iload_n 1, 1) := by decide +kernel
theorem dM_isPinned_15 : decode cM_isPinned 15 = .ok (.iaload, 1) := by decide +kernel
theorem dM_isPinned_16 : decode cM_isPinned 16 = .ok (.ifCond .lt 16, 3) := by decide +kernel
theorem dM_isPinned_19 : decode cM_isPinned 19 = .ok (.aload_n 0, 1) := by decide +kernel
theorem dM_isPinned_20 : decode cM_isPinned 20 = .ok (.getfield 45, 3) := by decide +kernel
theorem dM_isPinned_23 : decode cM_isPinned 23 = .ok (.iload_n 1, 1) := by decide +kernel
theorem dM_isPinned_24 : decode cM_isPinned 24 = .ok (.iaload, 1) := by decide +kernel
theorem dM_isPinned_25 : decode cM_isPinned 25 = .ok (.ifCond .le 7, 3) := by decide +kernel
theorem dM_isPinned_28 : decode cM_isPinned 28 = .ok (.iconst 1, 1) := by decide +kernel
theorem dM_isPinned_29 : decode cM_isPinned 29 = .ok (.goto 4, 3) := by decide +kernel
theorem dM_isPinned_32 : decode cM_isPinned 32 = .ok (.iconst 0, 1) := by decide +kernel
theorem dM_isPinned_33 : decode cM_isPinned 33 = .ok (.ireturn, 1) := by decide +kernel
theorem dM_unpin_0 : decode cM_unpin 0 = .ok (.aload_n 0, 1) := by decide +kernel
theorem dM_unpin_1 : decode cM_unpin 1 = .ok (.iconst 0, 1) := by decide +kernel
theorem dM_unpin_2 : decode cM_unpin 2 = .ok (.putfield 67, 3) := by decide +kernel
theorem dM_unpin_5 : decode cM_unpin 5 = .ok (.aload_n 0, 1) := by decide +kernel
theorem dM_unpin_6 : decode cM_unpin 6 = .ok (.iload_n 1, 1) := by decide +kernel
theorem dM_unpin_7 : decode cM_unpin 7 = .ok (.invokevirtual 135, 3) := by decide +kernel
theorem dM_unpin_10 : decode cM_unpin 10 = .ok (.ifCond .ne 5, 3) := by decide +kernel
theorem dM_unpin_13 : decode cM_unpin 13 = .ok (.iconst 0, 1) := by decide +kernel
theorem dM_unpin_14 : decode cM_unpin 14 = .ok (.ireturn, 1) := by decide +kernel
theorem dM_unpin_15 : decode cM_unpin 15 = .ok (.aload_n 0, 1) := by decide +kernel
theorem dM_unpin_16 : decode cM_unpin 16 = .ok (.getfield 45, 3) := by decide +kernel
theorem dM_unpin_19 : decode cM_unpin 19 = .ok (.iload_n 1, 1) := by decide +kernel
theorem dM_unpin_20 : decode cM_unpin 20 = .ok (.dup2, 1) := by decide +kernel
theorem dM_unpin_21 : decode cM_unpin 21 = .ok (.iaload, 1) := by decide +kernel
theorem dM_unpin_22 : decode cM_unpin 22 = .ok (.iconst 1, 1) := by decide +kernel
theorem dM_unpin_23 : decode cM_unpin 23 = .ok (.isub, 1) := by decide +kernel
theorem dM_unpin_24 : decode cM_unpin 24 = .ok (.iastore, 1) := by decide +kernel
theorem dM_unpin_25 : decode cM_unpin 25 = .ok (.iconst 1, 1) := by decide +kernel
theorem dM_unpin_26 : decode cM_unpin 26 = .ok (.ireturn, 1) := by decide +kernel
theorem dM_set_0 : decode cM_set 0 = .ok (.aload_n 0, 1) := by decide +kernel
theorem dM_set_1 : decode cM_set 1 = .ok (.iconst 0, 1) := by decide +kernel
theorem dM_set_2 : decode cM_set 2 = .ok (.putfield 67, 3) := by decide +kernel
theorem dM_set_5 : decode cM_set 5 = .ok (.aload_n 0, 1) := by decide +kernel
theorem dM_set_6 : decode cM_set 6 = .ok (.iload_n 1, 1) := by decide +kernel
theorem dM_set_7 : decode cM_set 7 = .ok (.invokevirtual 135, 3) := by decide +kernel
theorem dM_set_10 : decode cM_set 10 = .ok (.ifCond .eq 26, 3) := by decide +kernel
theorem dM_set_13 : decode cM_set 13 = .ok (.iload_n 2, 1) := by decide +kernel
theorem dM_set_14 : decode cM_set 14 = .ok (.bipush 6, 2) := by decide +kernel
theorem dM_set_16 : decode cM_set 16 = .ok (.if_icmp .lt 20, 3) := by decide +kernel
theorem dM_set_19 : decode cM_set 19 = .ok (.iload_n 2, 1) := by decide +kernel
theorem dM_set_20 : decode cM_set 20 = .ok (.sipush 509, 3) := by decide +kernel
theorem dM_set_23 : decode cM_set 23 = .ok (.if_icmp .gt 13, 3) := by decide +kernel
theorem dM_set_26 : decode cM_set 26 = .ok (.iload 4, 2) := by decide +kernel
theorem dM_set_28 : decode cM_set 28 = .ok (.aload_n 0, 1) := by decide +kernel
theorem dM_set_29 : decode cM_set 29 = .ok (.iload_n 1, 1) := by decide +kernel
theorem dM_set_30 : decode cM_set 30 = .ok (.invokevirtual 83, 3) := by decide +kernel
theorem dM_set_33 : decode cM_set 33 = .ok (.if_icmp .ge 5, 3) := by decide +kernel
theorem dM_set_36 : decode cM_set 36 = .ok (.iconst 0, 1) := by decide +kernel
theorem dM_set_37 : decode cM_set 37 = .ok (.ireturn, 1) := by decide +kernel
theorem dM_set_38 : decode cM_set 38 = .ok (.aload_n 0, 1) := by decide +kernel
theorem dM_set_39 : decode cM_set 39 = .ok (.dup, 1) := by decide +kernel
theorem dM_set_40 : decode cM_set 40 = .ok (.getfield 73, 3) := by decide +kernel
theorem dM_set_43 : decode cM_set 43 = .ok (.iconst 1, 1) := by decide +kernel
theorem dM_set_44 : decode cM_set 44 = .ok (.iadd, 1) := by decide +kernel
theorem dM_set_45 : decode cM_set 45 = .ok (.putfield 73, 3) := by decide +kernel
theorem dM_set_48 : decode cM_set 48 = .ok (.aload_n 0, 1) := by decide +kernel
theorem dM_set_49 : decode cM_set 49 = .ok (.getfield 7, 3) := by decide +kernel
theorem dM_set_52 : decode cM_set 52 = .ok (.aload_n 0, 1) := by decide +kernel
theorem dM_set_53 : decode cM_set 53 = .ok (.getfield 73, 3) := by decide +kernel
theorem dM_set_56 : decode cM_set 56 = .ok (.aload_n 0, 1) := by decide +kernel
theorem dM_set_57 : decode cM_set 57 = .ok (.getfield 42, 3) := by decide +kernel
theorem dM_set_60 : decode cM_set 60 = .ok (.iload_n 1, 1) := by decide +kernel
theorem dM_set_61 : decode cM_set 61 = .ok (.iaload, 1) := by decide +kernel
theorem dM_set_62 : decode cM_set 62 = .ok (.i2s, 1) := by decide +kernel
theorem dM_set_63 : decode cM_set 63 = .ok (.sastore, 1) := by decide +kernel
theorem dM_set_64 : decode cM_set 64 = .ok (.aload_n 0, 1) := by decide +kernel
theorem dM_set_65 : decode cM_set 65 = .ok (.getfield 13, 3) := by decide +kernel
theorem dM_set_68 : decode cM_set 68 = .ok (.aload_n 0, 1) := by decide +kernel
theorem dM_set_69 : decode cM_set 69 = .ok (.getfield 73, 3) := by decide +kernel
theorem dM_set_72 : decode cM_set 72 = .ok (.iload_n 2, 1) := by decide +kernel
theorem dM_set_73 : decode cM_set 73 = .ok (.i2s, 1) := by decide +kernel
theorem dM_set_74 : decode cM_set 74 = .ok (.sastore, 1) := by decide +kernel
theorem dM_set_75 : decode cM_set 75 = .ok (.aload_n 0, 1) := by decide +kernel
theorem dM_set_76 : decode cM_set 76 = .ok (.getfield 16, 3) := by decide +kernel
theorem dM_set_79 : decode cM_set 79 = .ok (.aload_n 0, 1) := by decide +kernel
theorem dM_set_80 : decode cM_set 80 = .ok (.getfield 73, 3) := by decide +kernel
theorem dM_set_83 : decode cM_set 83 = .ok (.iload_n 3, 1) := by decide +kernel
theorem dM_set_84 : decode cM_set 84 = .ok (.sipush 255, 3) := by decide +kernel
theorem dM_set_87 : decode cM_set 87 = .ok (.iand, 1) := by decide +kernel
theorem dM_set_88 : decode cM_set 88 = .ok (.i2s, 1) := by decide +kernel
theorem dM_set_89 : decode cM_set 89 = .ok (.sastore, 1) := by decide +kernel
theorem dM_set_90 : decode cM_set 90 = .ok (.aload_n 0, 1) := by decide +kernel
theorem dM_set_91 : decode cM_set 91 = .ok (.getfield 19, 3) := by decide +kernel
theorem dM_set_94 : decode cM_set 94 = .ok (.aload_n 0, 1) := by decide +kernel
theorem dM_set_95 : decode cM_set 95 = .ok (.getfield 73, 3) := by decide +kernel
theorem dM_set_98 : decode cM_set 98 = .ok (.iload 4, 2) := by decide +kernel
theorem dM_set_100 : decode cM_set 100 = .ok (.iastore, 1) := by decide +kernel
theorem dM_set_101 : decode cM_set 101 = .ok (.aload_n 0, 1) := by decide +kernel
theorem dM_set_102 : decode cM_set 102 = .ok (.getfield 23, 3) := by decide +kernel
theorem dM_set_105 : decode cM_set 105 = .ok (.aload_n 0, 1) := by decide +kernel
theorem dM_set_106 : decode cM_set 106 = .ok (.getfield 73, 3) := by decide +kernel
theorem dM_set_109 : decode cM_set 109 = .ok (.iconst 0, 1) := by decide +kernel
theorem dM_set_110 : decode cM_set 110 = .ok (.bastore, 1) := by decide +kernel
theorem dM_set_111 : decode cM_set 111 = .ok (.aload_n 0, 1) := by decide +kernel
theorem dM_set_112 : decode cM_set 112 = .ok (.getfield 27, 3) := by decide +kernel
theorem dM_set_115 : decode cM_set 115 = .ok (.aload_n 0, 1) := by decide +kernel
theorem dM_set_116 : decode cM_set 116 = .ok (.getfield 73, 3) := by decide +kernel
theorem dM_set_119 : decode cM_set 119 = .ok (.iconst 0, 1) := by decide +kernel
theorem dM_set_120 : decode cM_set 120 = .ok (.bastore, 1) := by decide +kernel
theorem dM_set_121 : decode cM_set 121 = .ok (.aload_n 0, 1) := by decide +kernel
theorem dM_set_122 : decode cM_set 122 = .ok (.getfield 51, 3) := by decide +kernel
theorem dM_set_125 : decode cM_set 125 = .ok (.iload_n 1, 1) := by decide +kernel
theorem dM_set_126 : decode cM_set 126 = .ok (.iconst 1, 1) := by decide +kernel
theorem dM_set_127 : decode cM_set 127 = .ok (.bastore, 1) := by decide +kernel
theorem dM_set_128 : decode cM_set 128 = .ok (.iconst 1, 1) := by decide +kernel
theorem dM_set_129 : decode cM_set 129 = .ok (.ireturn, 1) := by decide +kernel
theorem dM_clean_0 : decode cM_clean 0 = .ok (.aload_n 0, 1) := by decide +kernel
theorem dM_clean_1 : decode cM_clean 1 = .ok (.iconst 0, 1) := by decide +kernel
theorem dM_clean_2 : decode cM_clean 2 = .ok (.putfield 67, 3) := by decide +kernel
theorem dM_clean_5 : decode cM_clean 5 = .ok (.iload_n 1, 1) := by decide +kernel
theorem dM_clean_6 : decode cM_clean 6 = .ok (.iconst 1, 1) := by decide +kernel
theorem dM_clean_7 : decode cM_clean 7 = .ok (.if_icmp .lt 9, 3) := by decide +kernel
theorem dM_clean_10 : decode cM_clean 10 = .ok (.iload_n 1, 1) := by decide +kernel
theorem dM_clean_11 : decode cM_clean 11 = .ok (.bipush 12, 2) := by decide +kernel
theorem dM_clean_13 : decode cM_clean 13 = .ok (.if_icmp .le 9, 3) := by decide +kernel
theorem dM_clean_16 : decode cM_clean 16 = .ok (.aload_n 0, 1) := by decide +kernel
theorem dM_clean_17 : decode cM_clean 17 = .ok (.iconst 1, 1) := by decide +kernel
theorem dM_clean_18 : decode cM_clean 18 = .ok (.invokevirtual 114, 3) := by decide +kernel
theorem dM_clean_21 : decode cM_clean 21 = .ok (.ireturn, 1) := by decide +kernel
theorem dM_clean_22 : decode cM_clean 22 = .ok (.iconst 0, 1) := by decide +kernel
theorem dM_clean_23 : decode cM_clean 23 = .ok (.istore_n 2, 1) := by decide +kernel
theorem dM_clean_24 : decode cM_clean 24 = .ok (.aload_n 0, 1) := by decide +kernel
theorem dM_clean_25 : decode cM_clean 25 = .ok (.getfield 70, 3) := by decide +kernel
theorem dM_clean_28 : decode cM_clean 28 = .ok (.istore_n 3, 1) := by decide +kernel
theorem dM_clean_29 : decode cM_clean 29 = .ok (.iconst 0, 1) := by decide +kernel
theorem dM_clean_30 : decode cM_clean 30 = .ok (.istore 4, 2) := by decide +kernel
theorem dM_clean_32 : decode cM_clean 32 = .ok (.iload 4, 2) := by decide +kernel
theorem dM_clean_34 : decode cM_clean 34 = .ok (.bipush 12, 2) := by decide +kernel
theorem dM_clean_36 : decode cM_clean 36 = .ok (.if_icmp .ge 71, 3) := by decide +kernel
theorem dM_clean_39 : decode cM_clean 39 = .ok (.iload_n 2, 1) := by decide +kernel
theorem dM_clean_40 : decode cM_clean 40 = .ok (.iload_n 1, 1) := by decide +kernel
theorem dM_clean_41 : decode cM_clean 41 = .ok (.if_icmp .ge 66, 3) := by decide +kernel
theorem dM_clean_44 : decode cM_clean 44 = .ok (.iload_n 3, 1) := by decide +kernel
theorem dM_clean_45 : decode cM_clean 45 = .ok (.iload 4, 2) := by decide +kernel
theorem dM_clean_47 : decode cM_clean 47 = .ok (.iadd, 1) := by decide +kernel
theorem dM_clean_48 : decode cM_clean 48 = .ok (.bipush 12, 2) := by decide +kernel
theorem dM_clean_50 : decode cM_clean 50 = .ok (.irem, 1) := by decide +kernel
theorem dM_clean_51 : decode cM_clean 51 = .ok (.istore 5, 2) := by decide +kernel
theorem dM_clean_53 : decode cM_clean 53 = .ok (.aload_n 0, 1) := by decide +kernel
theorem dM_clean_54 : decode cM_clean 54 = .ok (.getfield 42, 3) := by decide +kernel
theorem dM_clean_57 : decode cM_clean 57 = .ok (.iload 5, 2) := by decide +kernel
theorem dM_clean_59 : decode cM_clean 59 = .ok (.iaload, 1) := by decide +kernel
theorem dM_clean_60 : decode cM_clean 60 = .ok (.ifCond .lt 41, 3) := by decide +kernel
theorem dM_clean_63 : decode cM_clean 63 = .ok (.aload_n 0, 1) := by decide +kernel
theorem dM_clean_64 : decode cM_clean 64 = .ok (.getfield 45, 3) := by decide +kernel
theorem dM_clean_67 : decode cM_clean 67 = .ok (.iload 5, 2) := by decide +kernel
theorem dM_clean_69 : decode cM_clean 69 = .ok (.iaload, 1) := by decide +kernel
theorem dM_clean_70 : decode cM_clean 70 = .ok (.ifCond .ne 31, 3) := by decide +kernel
theorem dM_clean_73 : decode cM_clean 73 = .ok (.aload_n 0, 1) := by decide +kernel
theorem dM_clean_74 : decode cM_clean 74 = .ok (.getfield 51, 3) := by decide +kernel
theorem dM_clean_77 : decode cM_clean 77 = .ok (.iload 5, 2) := by decide +kernel
theorem dM_clean_79 : decode cM_clean 79 = .ok (.baload, 1) := by decide +kernel
theorem dM_clean_80 : decode cM_clean 80 = .ok (.ifCond .eq 21, 3) := by decide +kernel
theorem dM_clean_83 : decode cM_clean 83 = .ok (.aload_n 0, 1) := by decide +kernel
theorem dM_clean_84 : decode cM_clean 84 = .ok (.iload 5, 2) := by decide +kernel
theorem dM_clean_86 : decode cM_clean 86 = .ok (.invokevirtual 111, 3) := by decide +kernel
theorem dM_clean_89 : decode cM_clean 89 = .ok (.ifCond .ne 9, 3) := by decide +kernel
theorem dM_clean_92 : decode cM_clean 92 = .ok (.aload_n 0, 1) := by decide +kernel
theorem dM_clean_93 : decode cM_clean 93 = .ok (.iconst 2, 1) := by decide +kernel
theorem dM_clean_94 : decode cM_clean 94 = .ok (.invokevirtual 114, 3) := by decide +kernel
theorem dM_clean_97 : decode cM_clean 97 = .ok (.ireturn, 1) := by decide +kernel
theorem dM_clean_98 : decode cM_clean 98 = .ok (.iinc 2 1, 3) := by decide +kernel
theorem dM_clean_101 : decode cM_clean 101 = .ok (.iinc 4 1, 3) := by decide +kernel
theorem dM_clean_104 : decode cM_clean 104 = .ok (.goto (-72), 3) := by decide +kernel
theorem dM_clean_107 : decode cM_clean 107 = .ok (.iload_n 2, 1) := by decide +kernel
theorem dM_clean_108 : decode cM_clean 108 = .ok (.ireturn, 1) := by decide +kernel
theorem dM_sweep_0 : decode cM_sweep 0 = .ok (.aload_n 0, 1) := by decide +kernel
theorem dM_sweep_1 : decode cM_sweep 1 = .ok (.iconst 0, 1) := by decide +kernel
theorem dM_sweep_2 : decode cM_sweep 2 = .ok (.putfield 67, 3) := by decide +kernel
theorem dM_sweep_5 : decode cM_sweep 5 = .ok (.iconst 0, 1) := by decide +kernel
theorem dM_sweep_6 : decode cM_sweep 6 = .ok (.istore_n 1, 1) := by decide +kernel
theorem dM_sweep_7 : decode cM_sweep 7 = .ok (.iconst 0, 1) := by decide +kernel
theorem dM_sweep_8 : decode cM_sweep 8 = .ok (.istore_n 2, 1) := by decide +kernel
theorem dM_sweep_9 : decode cM_sweep 9 = .ok (.iload_n 2, 1) := by decide +kernel
theorem dM_sweep_10 : decode cM_sweep 10 = .ok (.sipush 192, 3) := by decide +kernel
theorem dM_sweep_13 : decode cM_sweep 13 = .ok (.if_icmp .ge 45, 3) := by decide +kernel
theorem dM_sweep_16 : decode cM_sweep 16 = .ok (.aload_n 0, 1) := by decide +kernel
theorem dM_sweep_17 : decode cM_sweep 17 = .ok (.iload_n 2, 1) := by decide +kernel
theorem dM_sweep_18 : decode cM_sweep 18 = .ok (.invokevirtual 117, 3) := by decide +kernel
theorem dM_sweep_21 : decode cM_sweep 21 = .ok (.istore_n 3, 1) := by decide +kernel
theorem dM_sweep_22 : decode cM_sweep 22 = .ok (.iload_n 3, 1) := by decide +kernel
theorem dM_sweep_23 : decode cM_sweep 23 = .ok (.ifCond .lt 29, 3) := by decide +kernel
theorem dM_sweep_26 : decode cM_sweep 26 = .ok (.aload_n 0, 1) := by decide +kernel
theorem dM_sweep_27 : decode cM_sweep 27 = .ok (.getfield 51, 3) := by decide +kernel
theorem dM_sweep_30 : decode cM_sweep 30 = .ok (.iload_n 3, 1) := by decide +kernel
theorem dM_sweep_31 : decode cM_sweep 31 = .ok (.baload, 1) := by decide +kernel
theorem dM_sweep_32 : decode cM_sweep 32 = .ok (.ifCond .eq 20, 3) := by decide +kernel
theorem dM_sweep_35 : decode cM_sweep 35 = .ok (.aload_n 0, 1) := by decide +kernel
theorem dM_sweep_36 : decode cM_sweep 36 = .ok (.iload_n 3, 1) := by decide +kernel
theorem dM_sweep_37 : decode cM_sweep 37 = .ok (.invokevirtual 111, 3) := by decide +kernel
theorem dM_sweep_40 : decode cM_sweep 40 = .ok (.ifCond .ne 9, 3) := by decide +kernel
theorem dM_sweep_43 : decode cM_sweep 43 = .ok (.aload_n 0, 1) := by decide +kernel
theorem dM_sweep_44 : decode cM_sweep 44 = .ok (.iconst 1, 1) := by decide +kernel
theorem dM_sweep_45 : decode cM_sweep 45 = .ok (.invokevirtual 114, 3) := by decide +kernel
theorem dM_sweep_48 : decode cM_sweep 48 = .ok (.ireturn, 1) := by decide +kernel
theorem dM_sweep_49 : decode cM_sweep 49 = .ok (.iinc 1 1, 3) := by decide +kernel
theorem dM_sweep_52 : decode cM_sweep 52 = .ok (.iinc 2 1, 3) := by decide +kernel
theorem dM_sweep_55 : decode cM_sweep 55 = .ok (.goto (-46), 3) := by decide +kernel
theorem dM_sweep_58 : decode cM_sweep 58 = .ok (.iload_n 1, 1) := by decide +kernel
theorem dM_sweep_59 : decode cM_sweep 59 = .ok (.ireturn, 1) := by decide +kernel
theorem dM_charge_0 : decode cM_charge 0 = .ok (.aload_n 0, 1) := by decide +kernel
theorem dM_charge_1 : decode cM_charge 1 = .ok (.iload_n 1, 1) := by decide +kernel
theorem dM_charge_2 : decode cM_charge 2 = .ok (.ifCond .lt 10, 3) := by decide +kernel
theorem dM_charge_5 : decode cM_charge 5 = .ok (.iload_n 1, 1) := by decide +kernel
theorem dM_charge_6 : decode cM_charge 6 = .ok (.sipush 999, 3) := by decide +kernel
theorem dM_charge_9 : decode cM_charge 9 = .ok (.if_icmp .le 7, 3) := by decide +kernel
theorem dM_charge_12 : decode cM_charge 12 = .ok (.iconst 1, 1) := by decide +kernel
theorem dM_charge_13 : decode cM_charge 13 = .ok (.goto 4, 3) := by decide +kernel
theorem dM_charge_16 : decode cM_charge 16 = .ok (.iconst 0, 1) := by decide +kernel
theorem dM_charge_17 : decode cM_charge 17 = .ok (.putfield 67, 3) := by decide +kernel
theorem dM_charge_20 : decode cM_charge 20 = .ok (.aload_n 0, 1) := by decide +kernel
theorem dM_charge_21 : decode cM_charge 21 = .ok (.aload_n 0, 1) := by decide +kernel
theorem dM_charge_22 : decode cM_charge 22 = .ok (.getfield 67, 3) := by decide +kernel
theorem dM_charge_25 : decode cM_charge 25 = .ok (.ifCond .ne 7, 3) := by decide +kernel
theorem dM_charge_28 : decode cM_charge 28 = .ok (.iload_n 1, 1) := by decide +kernel
theorem dM_charge_29 : decode cM_charge 29 = .ok (.goto 7, 3) := by decide +kernel
theorem dM_charge_32 : decode cM_charge 32 = .ok (.aload_n 0, 1) := by decide +kernel
theorem dM_charge_33 : decode cM_charge 33 = .ok (.getfield 60, 3) := by decide +kernel
theorem dM_charge_36 : decode cM_charge 36 = .ok (.putfield 60, 3) := by decide +kernel
theorem dM_charge_39 : decode cM_charge 39 = .ok (.return_, 1) := by decide +kernel
theorem dM_flushed_0 : decode cM_flushed 0 = .ok (.aload_n 0, 1) := by decide +kernel
theorem dM_flushed_1 : decode cM_flushed 1 = .ok (.iconst 0, 1) := by decide +kernel
theorem dM_flushed_2 : decode cM_flushed 2 = .ok (.putfield 67, 3) := by decide +kernel
theorem dM_flushed_5 : decode cM_flushed 5 = .ok (.iload_n 1, 1) := by decide +kernel
theorem dM_flushed_6 : decode cM_flushed 6 = .ok (.aload_n 0, 1) := by decide +kernel
theorem dM_flushed_7 : decode cM_flushed 7 = .ok (.getfield 98, 3) := by decide +kernel
theorem dM_flushed_10 : decode cM_flushed 10 = .ok (.if_icmp .le 7, 3) := by decide +kernel
theorem dM_flushed_13 : decode cM_flushed 13 = .ok (.iconst 1, 1) := by decide +kernel
theorem dM_flushed_14 : decode cM_flushed 14 = .ok (.goto 4, 3) := by decide +kernel
theorem dM_flushed_17 : decode cM_flushed 17 = .ok (.iconst 0, 1) := by decide +kernel
theorem dM_flushed_18 : decode cM_flushed 18 = .ok (.istore_n 2, 1) := by decide +kernel
theorem dM_flushed_19 : decode cM_flushed 19 = .ok (.aload_n 0, 1) := by decide +kernel
theorem dM_flushed_20 : decode cM_flushed 20 = .ok (.iload_n 2, 1) := by decide +kernel
theorem dM_flushed_21 : decode cM_flushed 21 = .ok (.ifCond .eq 7, 3) := by decide +kernel
theorem dM_flushed_24 : decode cM_flushed 24 = .ok (.iload_n 1, 1) := by decide +kernel
theorem dM_flushed_25 : decode cM_flushed 25 = .ok (.goto 7, 3) := by decide +kernel
theorem dM_flushed_28 : decode cM_flushed 28 = .ok (.aload_n 0, 1) := by decide +kernel
theorem dM_flushed_29 : decode cM_flushed 29 = .ok (.getfield 98, 3) := by decide +kernel
theorem dM_flushed_32 : decode cM_flushed 32 = .ok (.putfield 98, 3) := by decide +kernel
theorem dM_flushed_35 : decode cM_flushed 35 = .ok (.iload_n 2, 1) := by decide +kernel
theorem dM_flushed_36 : decode cM_flushed 36 = .ok (.ireturn, 1) := by decide +kernel
theorem dM_look_0 : decode cM_look 0 = .ok (.aload_n 0, 1) := by decide +kernel
theorem dM_look_1 : decode cM_look 1 = .ok (.iconst 0, 1) := by decide +kernel
theorem dM_look_2 : decode cM_look 2 = .ok (.putfield 67, 3) := by decide +kernel
theorem dM_look_5 : decode cM_look 5 = .ok (.iload_n 1, 1) := by decide +kernel
theorem dM_look_6 : decode cM_look 6 = .ok (.ifCond .lt 27, 3) := by decide +kernel
theorem dM_look_9 : decode cM_look 9 = .ok (.iload_n 1, 1) := by decide +kernel
theorem dM_look_10 : decode cM_look 10 = .ok (.bipush 12, 2) := by decide +kernel
theorem dM_look_12 : decode cM_look 12 = .ok (.if_icmp .ge 21, 3) := by decide +kernel
theorem dM_look_15 : decode cM_look 15 = .ok (.aload_n 0, 1) := by decide +kernel
theorem dM_look_16 : decode cM_look 16 = .ok (.getfield 42, 3) := by decide +kernel
theorem dM_look_19 : decode cM_look 19 = .ok (.iload_n 1, 1) := by decide +kernel
theorem dM_look_20 : decode cM_look 20 = .ok (.iaload, 1) := by decide +kernel
theorem dM_look_21 : decode cM_look 21 = .ok (.ifCond .lt 12, 3) := by decide +kernel
theorem dM_look_24 : decode cM_look 24 = .ok (.iload_n 2, 1) := by decide +kernel
theorem dM_look_25 : decode cM_look 25 = .ok (.ifCond .lt 8, 3) := by decide +kernel
theorem dM_look_28 : decode cM_look 28 = .ok (.iload_n 2, 1) := by decide +kernel
theorem dM_look_29 : decode cM_look 29 = .ok (.iconst 4, 1) := by decide +kernel
theorem dM_look_30 : decode cM_look 30 = .ok (.if_icmp .le 5, 3) := by decide +kernel
theorem dM_look_33 : decode cM_look 33 = .ok (.iconst (-1), 1) := by decide +kernel
theorem dM_look_34 : decode cM_look 34 = .ok (.ireturn, 1) := by decide +kernel
theorem dM_look_35 : decode cM_look 35 = .ok (.iload_n 2, 1) := by decide +kernel
theorem dM_look_36 : decode cM_look 36 = .ok (.ifCond .ne 12, 3) := by decide +kernel
theorem dM_look_39 : decode cM_look 39 = .ok (.aload_n 0, 1) := by decide +kernel
theorem dM_look_40 : decode cM_look 40 = .ok (.getfield 42, 3) := by decide +kernel
theorem dM_look_43 : decode cM_look 43 = .ok (.iload_n 1, 1) := by decide +kernel
theorem dM_look_44 : decode cM_look 44 = .ok (.iaload, 1) := by decide +kernel
theorem dM_look_45 : decode cM_look 45 = .ok (.goto 58, 3) := by decide +kernel
theorem dM_look_48 : decode cM_look 48 = .ok (.iload_n 2, 1) := by decide +kernel
theorem dM_look_49 : decode cM_look 49 = .ok (.iconst 1, 1) := by decide +kernel
theorem dM_look_50 : decode cM_look 50 = .ok (.if_icmp .ne 12, 3) := by decide +kernel
theorem dM_look_53 : decode cM_look 53 = .ok (.aload_n 0, 1) := by decide +kernel
theorem dM_look_54 : decode cM_look 54 = .ok (.getfield 45, 3) := by decide +kernel
theorem dM_look_57 : decode cM_look 57 = .ok (.iload_n 1, 1) := by decide +kernel
theorem dM_look_58 : decode cM_look 58 = .ok (.iaload, 1) := by decide +kernel
theorem dM_look_59 : decode cM_look 59 = .ok (.goto 44, 3) := by decide +kernel
theorem dM_look_62 : decode cM_look 62 = .ok (.iload_n 2, 1) := by decide +kernel
theorem dM_look_63 : decode cM_look 63 = .ok (.iconst 2, 1) := by decide +kernel
theorem dM_look_64 : decode cM_look 64 = .ok (.if_icmp .ne 12, 3) := by decide +kernel
theorem dM_look_67 : decode cM_look 67 = .ok (.aload_n 0, 1) := by decide +kernel
theorem dM_look_68 : decode cM_look 68 = .ok (.getfield 48, 3) := by decide +kernel
theorem dM_look_71 : decode cM_look 71 = .ok (.iload_n 1, 1) := by decide +kernel
theorem dM_look_72 : decode cM_look 72 = .ok (.iaload, 1) := by decide +kernel
theorem dM_look_73 : decode cM_look 73 = .ok (.goto 30, 3) := by decide +kernel
theorem dM_look_76 : decode cM_look 76 = .ok (.iload_n 2, 1) := by decide +kernel
theorem dM_look_77 : decode cM_look 77 = .ok (.iconst 3, 1) := by decide +kernel
theorem dM_look_78 : decode cM_look 78 = .ok (.if_icmp .ne 20, 3) := by decide +kernel
theorem dM_look_81 : decode cM_look 81 = .ok (.aload_n 0, 1) := by decide +kernel
theorem dM_look_82 : decode cM_look 82 = .ok (.getfield 51, 3) := by decide +kernel
theorem dM_look_85 : decode cM_look 85 = .ok (.iload_n 1, 1) := by decide +kernel
theorem dM_look_86 : decode cM_look 86 = .ok (.baload, 1) := by decide +kernel
theorem dM_look_87 : decode cM_look 87 = .ok (.ifCond .eq 7, 3) := by decide +kernel
theorem dM_look_90 : decode cM_look 90 = .ok (.iconst 1, 1) := by decide +kernel
theorem dM_look_91 : decode cM_look 91 = .ok (.goto 12, 3) := by decide +kernel
theorem dM_look_94 : decode cM_look 94 = .ok (.iconst 0, 1) := by decide +kernel
theorem dM_look_95 : decode cM_look 95 = .ok (.goto 8, 3) := by decide +kernel
theorem dM_look_98 : decode cM_look 98 = .ok (.aload_n 0, 1) := by decide +kernel
theorem dM_look_99 : decode cM_look 99 = .ok (.iload_n 1, 1) := by decide +kernel
theorem dM_look_100 : decode cM_look 100 = .ok (.invokevirtual 83, 3) := by decide +kernel
theorem dM_look_103 : decode cM_look 103 = .ok (.ireturn, 1) := by decide +kernel
theorem dM_count_0 : decode cM_count 0 = .ok (.aload_n 0, 1) := by decide +kernel
theorem dM_count_1 : decode cM_count 1 = .ok (.iconst 0, 1) := by decide +kernel
theorem dM_count_2 : decode cM_count 2 = .ok (.putfield 67, 3) := by decide +kernel
theorem dM_count_5 : decode cM_count 5 = .ok (.iconst 0, 1) := by decide +kernel
theorem dM_count_6 : decode cM_count 6 = .ok (.istore_n 2, 1) := by decide +kernel
theorem dM_count_7 : decode cM_count 7 = .ok (.iconst 0, 1) := by decide +kernel
theorem dM_count_8 : decode cM_count 8 = .ok (.istore_n 3, 1) := by decide +kernel
theorem dM_count_9 : decode cM_count 9 = .ok (.iload_n 3, 1) := by decide +kernel
theorem dM_count_10 : decode cM_count 10 = .ok (.bipush 12, 2) := by decide +kernel
theorem dM_count_12 : decode cM_count 12 = .ok (.if_icmp .ge 26, 3) := by decide +kernel
theorem dM_count_15 : decode cM_count 15 = .ok (.aload_n 0, 1) := by decide +kernel
theorem dM_count_16 : decode cM_count 16 = .ok (.getfield 42, 3) := by decide +kernel
theorem dM_count_19 : decode cM_count 19 = .ok (.iload_n 3, 1) := by decide +kernel
theorem dM_count_20 : decode cM_count 20 = .ok (.iaload, 1) := by decide +kernel
theorem dM_count_21 : decode cM_count 21 = .ok (.ifCond .lt 9, 3) := by decide +kernel
theorem dM_count_24 : decode cM_count 24 = .ok (.iload_n 2, 1) := by decide +kernel
theorem dM_count_25 : decode cM_count 25 = .ok (.iconst 1, 1) := by decide +kernel
theorem dM_count_26 : decode cM_count 26 = .ok (.iadd, 1) := by decide +kernel
theorem dM_count_27 : decode cM_count 27 = .ok (.goto 4, 3) := by decide +kernel
theorem dM_count_30 : decode cM_count 30 = .ok (.iload_n 2, 1) := by decide +kernel
theorem dM_count_31 : decode cM_count 31 = .ok (.istore_n 2, 1) := by decide +kernel
theorem dM_count_32 : decode cM_count 32 = .ok (.iinc 3 1, 3) := by decide +kernel
theorem dM_count_35 : decode cM_count 35 = .ok (.goto (-26), 3) := by decide +kernel
theorem dM_count_38 : decode cM_count 38 = .ok (.iload_n 1, 1) := by decide +kernel
theorem dM_count_39 : decode cM_count 39 = .ok (.ifCond .ne 10, 3) := by decide +kernel
theorem dM_count_42 : decode cM_count 42 = .ok (.aload_n 0, 1) := by decide +kernel
theorem dM_count_43 : decode cM_count 43 = .ok (.getfield 70, 3) := by decide +kernel
theorem dM_count_46 : decode cM_count 46 = .ok (.goto 61, 3) := by decide +kernel
theorem dM_count_49 : decode cM_count 49 = .ok (.iload_n 1, 1) := by decide +kernel
theorem dM_count_50 : decode cM_count 50 = .ok (.iconst 1, 1) := by decide +kernel
theorem dM_count_51 : decode cM_count 51 = .ok (.if_icmp .ne 10, 3) := by decide +kernel
theorem dM_count_54 : decode cM_count 54 = .ok (.aload_n 0, 1) := by decide +kernel
theorem dM_count_55 : decode cM_count 55 = .ok (.getfield 128, 3) := by decide +kernel
theorem dM_count_58 : decode cM_count 58 = .ok (.goto 49, 3) := by decide +kernel
theorem dM_count_61 : decode cM_count 61 = .ok (.iload_n 1, 1) := by decide +kernel
theorem dM_count_62 : decode cM_count 62 = .ok (.iconst 2, 1) := by decide +kernel
theorem dM_count_63 : decode cM_count 63 = .ok (.if_icmp .ne 10, 3) := by decide +kernel
theorem dM_count_66 : decode cM_count 66 = .ok (.aload_n 0, 1) := by decide +kernel
theorem dM_count_67 : decode cM_count 67 = .ok (.getfield 108, 3) := by decide +kernel
theorem dM_count_70 : decode cM_count 70 = .ok (.goto 37, 3) := by decide +kernel
theorem dM_count_73 : decode cM_count 73 = .ok (.iload_n 1, 1) := by decide +kernel
theorem dM_count_74 : decode cM_count 74 = .ok (.iconst 3, 1) := by decide +kernel
theorem dM_count_75 : decode cM_count 75 = .ok (.if_icmp .ne 10, 3) := by decide +kernel
theorem dM_count_78 : decode cM_count 78 = .ok (.aload_n 0, 1) := by decide +kernel
theorem dM_count_79 : decode cM_count 79 = .ok (.getfield 98, 3) := by decide +kernel
theorem dM_count_82 : decode cM_count 82 = .ok (.goto 25, 3) := by decide +kernel
theorem dM_count_85 : decode cM_count 85 = .ok (.iload_n 1, 1) := by decide +kernel
theorem dM_count_86 : decode cM_count 86 = .ok (.iconst 4, 1) := by decide +kernel
theorem dM_count_87 : decode cM_count 87 = .ok (.if_icmp .ne 10, 3) := by decide +kernel
theorem dM_count_90 : decode cM_count 90 = .ok (.aload_n 0, 1) := by decide +kernel
theorem dM_count_91 : decode cM_count 91 = .ok (.getfield 101, 3) := by decide +kernel
theorem dM_count_94 : decode cM_count 94 = .ok (.goto 13, 3) := by decide +kernel
theorem dM_count_97 : decode cM_count 97 = .ok (.iload_n 1, 1) := by decide +kernel
theorem dM_count_98 : decode cM_count 98 = .ok (.iconst 5, 1) := by decide +kernel
theorem dM_count_99 : decode cM_count 99 = .ok (.if_icmp .ne 7, 3) := by decide +kernel
theorem dM_count_102 : decode cM_count 102 = .ok (.iload_n 2, 1) := by decide +kernel
theorem dM_count_103 : decode cM_count 103 = .ok (.goto 4, 3) := by decide +kernel
theorem dM_count_106 : decode cM_count 106 = .ok (.iconst (-1), 1) := by decide +kernel
theorem dM_count_107 : decode cM_count 107 = .ok (.ireturn, 1) := by decide +kernel
end
section
theorem dL_pin_0 : decode cL_pin 0 = .ok (.aload_n 2, 1) := by decide +kernel
theorem dL_pin_1 : decode cL_pin 1 = .ok (.iconst 0, 1) := by decide +kernel
theorem dL_pin_2 : decode cL_pin 2 = .ok (.aload_n 0, 1) := by decide +kernel
theorem dL_pin_3 : decode cL_pin 3 = .ok (.iload_n 1, 1) := by decide +kernel
theorem dL_pin_4 : decode cL_pin 4 = .ok (.invokevirtual 7, 3) := by decide +kernel
theorem dL_pin_7 : decode cL_pin 7 = .ok (.i2l, 1) := by decide +kernel
theorem dL_pin_8 : decode cL_pin 8 = .ok (.lastore, 1) := by decide +kernel
theorem dL_pin_9 : decode cL_pin 9 = .ok (.goto 15, 3) := by decide +kernel
theorem dL_pin_12 : decode cL_pin 12 = .ok (.astore_n 3, 1) := by decide +kernel
theorem dL_pin_13 : decode cL_pin 13 = .ok (.iconst 1, 1) := by decide +kernel
theorem dL_pin_14 : decode cL_pin 14 = .ok (.ireturn, 1) := by decide +kernel
theorem dL_pin_15 : decode cL_pin 15 = .ok (.astore_n 3, 1) := by decide +kernel
theorem dL_pin_16 : decode cL_pin 16 = .ok (.iconst 2, 1) := by decide +kernel
theorem dL_pin_17 : decode cL_pin 17 = .ok (.ireturn, 1) := by decide +kernel
theorem dL_pin_18 : decode cL_pin 18 = .ok (.astore_n 3, 1) := by decide +kernel
theorem dL_pin_19 : decode cL_pin 19 = .ok (.iconst 3, 1) := by decide +kernel
theorem dL_pin_20 : decode cL_pin 20 = .ok (.ireturn, 1) := by decide +kernel
theorem dL_pin_21 : decode cL_pin 21 = .ok (.astore_n 3, 1) := by decide +kernel
theorem dL_pin_22 : decode cL_pin 22 = .ok (.iconst 4, 1) := by decide +kernel
theorem dL_pin_23 : decode cL_pin 23 = .ok (.ireturn, 1) := by decide +kernel
theorem dL_pin_24 : decode cL_pin 24 = .ok (.iconst 0, 1) := by decide +kernel
theorem dL_pin_25 : decode cL_pin 25 = .ok (.ireturn, 1) := by decide +kernel
theorem dL_remake_0 : decode cL_remake 0 = .ok (.aload_n 2, 1) := by decide +kernel
theorem dL_remake_1 : decode cL_remake 1 = .ok (.iconst 0, 1) := by decide +kernel
theorem dL_remake_2 : decode cL_remake 2 = .ok (.aload_n 0, 1) := by decide +kernel
theorem dL_remake_3 : decode cL_remake 3 = .ok (.iload_n 1, 1) := by decide +kernel
theorem dL_remake_4 : decode cL_remake 4 = .ok (.invokevirtual 21, 3) := by decide +kernel
theorem dL_remake_7 : decode cL_remake 7 = .ok (.i2l, 1) := by decide +kernel
theorem dL_remake_8 : decode cL_remake 8 = .ok (.lastore, 1) := by decide +kernel
theorem dL_remake_9 : decode cL_remake 9 = .ok (.goto 12, 3) := by decide +kernel
theorem dL_remake_12 : decode cL_remake 12 = .ok (.astore_n 3, 1) := by decide +kernel
theorem dL_remake_13 : decode cL_remake 13 = .ok (.iconst 1, 1) := by decide +kernel
theorem dL_remake_14 : decode cL_remake 14 = .ok (.ireturn, 1) := by decide +kernel
theorem dL_remake_15 : decode cL_remake 15 = .ok (.astore_n 3, 1) := by decide +kernel
theorem dL_remake_16 : decode cL_remake 16 = .ok (.iconst 2, 1) := by decide +kernel
theorem dL_remake_17 : decode cL_remake 17 = .ok (.ireturn, 1) := by decide +kernel
theorem dL_remake_18 : decode cL_remake 18 = .ok (.astore_n 3, 1) := by decide +kernel
theorem dL_remake_19 : decode cL_remake 19 = .ok (.iconst 3, 1) := by decide +kernel
theorem dL_remake_20 : decode cL_remake 20 = .ok (.ireturn, 1) := by decide +kernel
theorem dL_remake_21 : decode cL_remake 21 = .ok (.iconst 0, 1) := by decide +kernel
theorem dL_remake_22 : decode cL_remake 22 = .ok (.ireturn, 1) := by decide +kernel
theorem dL_clean_0 : decode cL_clean 0 = .ok (.aload_n 2, 1) := by decide +kernel
theorem dL_clean_1 : decode cL_clean 1 = .ok (.iconst 0, 1) := by decide +kernel
theorem dL_clean_2 : decode cL_clean 2 = .ok (.aload_n 0, 1) := by decide +kernel
theorem dL_clean_3 : decode cL_clean 3 = .ok (.iload_n 1, 1) := by decide +kernel
theorem dL_clean_4 : decode cL_clean 4 = .ok (.invokevirtual 24, 3) := by decide +kernel
theorem dL_clean_7 : decode cL_clean 7 = .ok (.i2l, 1) := by decide +kernel
theorem dL_clean_8 : decode cL_clean 8 = .ok (.lastore, 1) := by decide +kernel
theorem dL_clean_9 : decode cL_clean 9 = .ok (.goto 9, 3) := by decide +kernel
theorem dL_clean_12 : decode cL_clean 12 = .ok (.astore_n 3, 1) := by decide +kernel
theorem dL_clean_13 : decode cL_clean 13 = .ok (.iconst 1, 1) := by decide +kernel
theorem dL_clean_14 : decode cL_clean 14 = .ok (.ireturn, 1) := by decide +kernel
theorem dL_clean_15 : decode cL_clean 15 = .ok (.astore_n 3, 1) := by decide +kernel
theorem dL_clean_16 : decode cL_clean 16 = .ok (.iconst 2, 1) := by decide +kernel
theorem dL_clean_17 : decode cL_clean 17 = .ok (.ireturn, 1) := by decide +kernel
theorem dL_clean_18 : decode cL_clean 18 = .ok (.iconst 0, 1) := by decide +kernel
theorem dL_clean_19 : decode cL_clean 19 = .ok (.ireturn, 1) := by decide +kernel
theorem dL_sweep_0 : decode cL_sweep 0 = .ok (.aload_n 1, 1) := by decide +kernel
theorem dL_sweep_1 : decode cL_sweep 1 = .ok (.iconst 0, 1) := by decide +kernel
theorem dL_sweep_2 : decode cL_sweep 2 = .ok (.aload_n 0, 1) := by decide +kernel
theorem dL_sweep_3 : decode cL_sweep 3 = .ok (.invokevirtual 27, 3) := by decide +kernel
theorem dL_sweep_6 : decode cL_sweep 6 = .ok (.i2l, 1) := by decide +kernel
theorem dL_sweep_7 : decode cL_sweep 7 = .ok (.lastore, 1) := by decide +kernel
theorem dL_sweep_8 : decode cL_sweep 8 = .ok (.goto 6, 3) := by decide +kernel
theorem dL_sweep_11 : decode cL_sweep 11 = .ok (.astore_n 2, 1) := by decide +kernel
theorem dL_sweep_12 : decode cL_sweep 12 = .ok (.iconst 1, 1) := by decide +kernel
theorem dL_sweep_13 : decode cL_sweep 13 = .ok (.ireturn, 1) := by decide +kernel
theorem dL_sweep_14 : decode cL_sweep 14 = .ok (.iconst 0, 1) := by decide +kernel
theorem dL_sweep_15 : decode cL_sweep 15 = .ok (.ireturn, 1) := by decide +kernel
theorem dL_charge_0 : decode cL_charge 0 = .ok (.aload_n 0, 1) := by decide +kernel
theorem dL_charge_1 : decode cL_charge 1 = .ok (.iload_n 1, 1) := by decide +kernel
theorem dL_charge_2 : decode cL_charge 2 = .ok (.invokevirtual 31, 3) := by decide +kernel
theorem dL_charge_5 : decode cL_charge 5 = .ok (.goto 6, 3) := by decide +kernel
theorem dL_charge_8 : decode cL_charge 8 = .ok (.astore_n 2, 1) := by decide +kernel
theorem dL_charge_9 : decode cL_charge 9 = .ok (.iconst 1, 1) := by decide +kernel
theorem dL_charge_10 : decode cL_charge 10 = .ok (.ireturn, 1) := by decide +kernel
theorem dL_charge_11 : decode cL_charge 11 = .ok (.iconst 0, 1) := by decide +kernel
theorem dL_charge_12 : decode cL_charge 12 = .ok (.ireturn, 1) := by decide +kernel
theorem dL_law_0 : decode code 0 = .ok (.new 8, 3) := by decide +kernel
theorem dL_law_3 : decode code 3 = .ok (.dup, 1) := by decide +kernel
theorem dL_law_4 : decode code 4 = .ok (.invokespecial 35, 3) := by decide +kernel
theorem dL_law_7 : decode code 7 = .ok (.astore_n 1, 1) := by decide +kernel
theorem dL_law_8 : decode code 8 = .ok (.new 36, 3) := by decide +kernel
theorem dL_law_11 : decode code 11 = .ok (.dup, 1) := by decide +kernel
theorem dL_law_12 : decode code 12 = .ok (.invokespecial 38, 3) := by decide +kernel
theorem dL_law_15 : decode code 15 = .ok (.astore_n 2, 1) := by decide +kernel
theorem dL_law_16 : decode code 16 = .ok (.iconst 1, 1) := by decide +kernel
theorem dL_law_17 : decode code 17 = .ok (.newarray .long, 2) := by decide +kernel
theorem dL_law_19 : decode code 19 = .ok (.astore_n 3, 1) := by decide +kernel
theorem dL_law_20 : decode code 20 = .ok (.iconst 0, 1) := by decide +kernel
theorem dL_law_21 : decode code 21 = .ok (.istore 4, 2) := by decide +kernel
theorem dL_law_23 : decode code 23 = .ok (.iload 4, 2) := by decide +kernel
theorem dL_law_25 : decode code 25 = .ok (.aload_n 0, 1) := by decide +kernel
theorem dL_law_26 : decode code 26 = .ok (.arraylength, 1) := by decide +kernel
theorem dL_law_27 : decode code 27 = .ok (.iconst 5, 1) := by decide +kernel
theorem dL_law_28 : decode code 28 = .ok (.isub, 1) := by decide +kernel
theorem dL_law_29 : decode code 29 = .ok (.if_icmp .gt 601, 3) := by decide +kernel
theorem dL_law_32 : decode code 32 = .ok (.aload_n 0, 1) := by decide +kernel
theorem dL_law_33 : decode code 33 = .ok (.iload 4, 2) := by decide +kernel
theorem dL_law_35 : decode code 35 = .ok (.iaload, 1) := by decide +kernel
theorem dL_law_36 : decode code 36 = .ok (.bipush 15, 2) := by decide +kernel
theorem dL_law_38 : decode code 38 = .ok (.iand, 1) := by decide +kernel
theorem dL_law_39 : decode code 39 = .ok (.tableswitch 585 0 12 #[65, 121, 177, 202, 239, 300, 356, 400, 436, 461, 498, 535, 560], 65) := by decide +kernel
theorem dL_law_104 : decode code 104 = .ok (.aload_n 1, 1) := by decide +kernel
theorem dL_law_105 : decode code 105 = .ok (.aload_n 0, 1) := by decide +kernel
theorem dL_law_106 : decode code 106 = .ok (.iload 4, 2) := by decide +kernel
theorem dL_law_108 : decode code 108 = .ok (.iconst 1, 1) := by decide +kernel
theorem dL_law_109 : decode code 109 = .ok (.iadd, 1) := by decide +kernel
theorem dL_law_110 : decode code 110 = .ok (.iaload, 1) := by decide +kernel
theorem dL_law_111 : decode code 111 = .ok (.aload_n 3, 1) := by decide +kernel
theorem dL_law_112 : decode code 112 = .ok (.invokestatic 39, 3) := by decide +kernel
theorem dL_law_115 : decode code 115 = .ok (.istore 5, 2) := by decide +kernel
theorem dL_law_117 : decode code 117 = .ok (.aload_n 2, 1) := by decide +kernel
theorem dL_law_118 : decode code 118 = .ok (.aload_n 0, 1) := by decide +kernel
theorem dL_law_119 : decode code 119 = .ok (.iload 4, 2) := by decide +kernel
theorem dL_law_121 : decode code 121 = .ok (.iconst 1, 1) := by decide +kernel
theorem dL_law_122 : decode code 122 = .ok (.iadd, 1) := by decide +kernel
theorem dL_law_123 : decode code 123 = .ok (.iaload, 1) := by decide +kernel
theorem dL_law_124 : decode code 124 = .ok (.invokevirtual 44, 3) := by decide +kernel
theorem dL_law_127 : decode code 127 = .ok (.istore 6, 2) := by decide +kernel
theorem dL_law_129 : decode code 129 = .ok (.aload_n 2, 1) := by decide +kernel
theorem dL_law_130 : decode code 130 = .ok (.invokevirtual 45, 3) := by decide +kernel
theorem dL_law_133 : decode code 133 = .ok (.iload 5, 2) := by decide +kernel
theorem dL_law_135 : decode code 135 = .ok (.if_icmp .eq 5, 3) := by decide +kernel
theorem dL_law_138 : decode code 138 = .ok (.iconst 0, 1) := by decide +kernel
theorem dL_law_139 : decode code 139 = .ok (.ireturn, 1) := by decide +kernel
theorem dL_law_140 : decode code 140 = .ok (.iload 5, 2) := by decide +kernel
theorem dL_law_142 : decode code 142 = .ok (.ifCond .ne 15, 3) := by decide +kernel
theorem dL_law_145 : decode code 145 = .ok (.aload_n 3, 1) := by decide +kernel
theorem dL_law_146 : decode code 146 = .ok (.iconst 0, 1) := by decide +kernel
theorem dL_law_147 : decode code 147 = .ok (.laload, 1) := by decide +kernel
theorem dL_law_148 : decode code 148 = .ok (.iload 6, 2) := by decide +kernel
theorem dL_law_150 : decode code 150 = .ok (.i2l, 1) := by decide +kernel
theorem dL_law_151 : decode code 151 = .ok (.lcmp, 1) := by decide +kernel
theorem dL_law_152 : decode code 152 = .ok (.ifCond .eq 5, 3) := by decide +kernel
theorem dL_law_155 : decode code 155 = .ok (.iconst 0, 1) := by decide +kernel
theorem dL_law_156 : decode code 156 = .ok (.ireturn, 1) := by decide +kernel
theorem dL_law_157 : decode code 157 = .ok (.goto 467, 3) := by decide +kernel
theorem dL_law_160 : decode code 160 = .ok (.aload_n 1, 1) := by decide +kernel
theorem dL_law_161 : decode code 161 = .ok (.aload_n 0, 1) := by decide +kernel
theorem dL_law_162 : decode code 162 = .ok (.iload 4, 2) := by decide +kernel
theorem dL_law_164 : decode code 164 = .ok (.iconst 1, 1) := by decide +kernel
theorem dL_law_165 : decode code 165 = .ok (.iadd, 1) := by decide +kernel
theorem dL_law_166 : decode code 166 = .ok (.iaload, 1) := by decide +kernel
theorem dL_law_167 : decode code 167 = .ok (.aload_n 3, 1) := by decide +kernel
theorem dL_law_168 : decode code 168 = .ok (.invokestatic 48, 3) := by decide +kernel
theorem dL_law_171 : decode code 171 = .ok (.istore 5, 2) := by decide +kernel
theorem dL_law_173 : decode code 173 = .ok (.aload_n 2, 1) := by decide +kernel
theorem dL_law_174 : decode code 174 = .ok (.aload_n 0, 1) := by decide +kernel
theorem dL_law_175 : decode code 175 = .ok (.iload 4, 2) := by decide +kernel
theorem dL_law_177 : decode code 177 = .ok (.iconst 1, 1) := by decide +kernel
theorem dL_law_178 : decode code 178 = .ok (.iadd, 1) := by decide +kernel
theorem dL_law_179 : decode code 179 = .ok (.iaload, 1) := by decide +kernel
theorem dL_law_180 : decode code 180 = .ok (.invokevirtual 50, 3) := by decide +kernel
theorem dL_law_183 : decode code 183 = .ok (.istore 6, 2) := by decide +kernel
theorem dL_law_185 : decode code 185 = .ok (.aload_n 2, 1) := by decide +kernel
theorem dL_law_186 : decode code 186 = .ok (.invokevirtual 45, 3) := by decide +kernel
theorem dL_law_189 : decode code 189 = .ok (.iload 5, 2) := by decide +kernel
theorem dL_law_191 : decode code 191 = .ok (.if_icmp .eq 5, 3) := by decide +kernel
theorem dL_law_194 : decode code 194 = .ok (.iconst 0, 1) := by decide +kernel
theorem dL_law_195 : decode code 195 = .ok (.ireturn, 1) := by decide +kernel
theorem dL_law_196 : decode code 196 = .ok (.iload 5, 2) := by decide +kernel
theorem dL_law_198 : decode code 198 = .ok (.ifCond .ne 15, 3) := by decide +kernel
theorem dL_law_201 : decode code 201 = .ok (.aload_n 3, 1) := by decide +kernel
theorem dL_law_202 : decode code 202 = .ok (.iconst 0, 1) := by decide +kernel
theorem dL_law_203 : decode code 203 = .ok (.laload, 1) := by decide +kernel
theorem dL_law_204 : decode code 204 = .ok (.iload 6, 2) := by decide +kernel
theorem dL_law_206 : decode code 206 = .ok (.i2l, 1) := by decide +kernel
theorem dL_law_207 : decode code 207 = .ok (.lcmp, 1) := by decide +kernel
theorem dL_law_208 : decode code 208 = .ok (.ifCond .eq 5, 3) := by decide +kernel
theorem dL_law_211 : decode code 211 = .ok (.iconst 0, 1) := by decide +kernel
theorem dL_law_212 : decode code 212 = .ok (.ireturn, 1) := by decide +kernel
theorem dL_law_213 : decode code 213 = .ok (.goto 411, 3) := by decide +kernel
theorem dL_law_216 : decode code 216 = .ok (.aload_n 1, 1) := by decide +kernel
theorem dL_law_217 : decode code 217 = .ok (.aload_n 0, 1) := by decide +kernel
theorem dL_law_218 : decode code 218 = .ok (.iload 4, 2) := by decide +kernel
theorem dL_law_220 : decode code 220 = .ok (.iconst 1, 1) := by decide +kernel
theorem dL_law_221 : decode code 221 = .ok (.iadd, 1) := by decide +kernel
theorem dL_law_222 : decode code 222 = .ok (.iaload, 1) := by decide +kernel
theorem dL_law_223 : decode code 223 = .ok (.invokevirtual 51, 3) := by decide +kernel
theorem dL_law_226 : decode code 226 = .ok (.aload_n 2, 1) := by decide +kernel
theorem dL_law_227 : decode code 227 = .ok (.aload_n 0, 1) := by decide +kernel
theorem dL_law_228 : decode code 228 = .ok (.iload 4, 2) := by decide +kernel
theorem dL_law_230 : decode code 230 = .ok (.iconst 1, 1) := by decide +kernel
theorem dL_law_231 : decode code 231 = .ok (.iadd, 1) := by decide +kernel
theorem dL_law_232 : decode code 232 = .ok (.iaload, 1) := by decide +kernel
theorem dL_law_233 : decode code 233 = .ok (.invokevirtual 55, 3) := by decide +kernel
theorem dL_law_236 : decode code 236 = .ok (.if_icmp .eq 388, 3) := by decide +kernel
theorem dL_law_239 : decode code 239 = .ok (.iconst 0, 1) := by decide +kernel
theorem dL_law_240 : decode code 240 = .ok (.ireturn, 1) := by decide +kernel
theorem dL_law_241 : decode code 241 = .ok (.aload_n 1, 1) := by decide +kernel
theorem dL_law_242 : decode code 242 = .ok (.aload_n 0, 1) := by decide +kernel
theorem dL_law_243 : decode code 243 = .ok (.iload 4, 2) := by decide +kernel
theorem dL_law_245 : decode code 245 = .ok (.iconst 1, 1) := by decide +kernel
theorem dL_law_246 : decode code 246 = .ok (.iadd, 1) := by decide +kernel
theorem dL_law_247 : decode code 247 = .ok (.iaload, 1) := by decide +kernel
theorem dL_law_248 : decode code 248 = .ok (.aload_n 0, 1) := by decide +kernel
theorem dL_law_249 : decode code 249 = .ok (.iload 4, 2) := by decide +kernel
theorem dL_law_251 : decode code 251 = .ok (.iconst 2, 1) := by decide +kernel
theorem dL_law_252 : decode code 252 = .ok (.iadd, 1) := by decide +kernel
theorem dL_law_253 : decode code 253 = .ok (.iaload, 1) := by decide +kernel
theorem dL_law_254 : decode code 254 = .ok (.invokevirtual 56, 3) := by decide +kernel
theorem dL_law_257 : decode code 257 = .ok (.aload_n 2, 1) := by decide +kernel
theorem dL_law_258 : decode code 258 = .ok (.aload_n 0, 1) := by decide +kernel
theorem dL_law_259 : decode code 259 = .ok (.iload 4, 2) := by decide +kernel
theorem dL_law_261 : decode code 261 = .ok (.iconst 1, 1) := by decide +kernel
theorem dL_law_262 : decode code 262 = .ok (.iadd, 1) := by decide +kernel
theorem dL_law_263 : decode code 263 = .ok (.iaload, 1) := by decide +kernel
theorem dL_law_264 : decode code 264 = .ok (.aload_n 0, 1) := by decide +kernel
theorem dL_law_265 : decode code 265 = .ok (.iload 4, 2) := by decide +kernel
theorem dL_law_267 : decode code 267 = .ok (.iconst 2, 1) := by decide +kernel
theorem dL_law_268 : decode code 268 = .ok (.iadd, 1) := by decide +kernel
theorem dL_law_269 : decode code 269 = .ok (.iaload, 1) := by decide +kernel
theorem dL_law_270 : decode code 270 = .ok (.invokevirtual 60, 3) := by decide +kernel
theorem dL_law_273 : decode code 273 = .ok (.if_icmp .eq 351, 3) := by decide +kernel
theorem dL_law_276 : decode code 276 = .ok (.iconst 0, 1) := by decide +kernel
theorem dL_law_277 : decode code 277 = .ok (.ireturn, 1) := by decide +kernel
theorem dL_law_278 : decode code 278 = .ok (.aload_n 1, 1) := by decide +kernel
theorem dL_law_279 : decode code 279 = .ok (.aload_n 0, 1) := by decide +kernel
theorem dL_law_280 : decode code 280 = .ok (.iload 4, 2) := by decide +kernel
theorem dL_law_282 : decode code 282 = .ok (.iconst 1, 1) := by decide +kernel
theorem dL_law_283 : decode code 283 = .ok (.iadd, 1) := by decide +kernel
theorem dL_law_284 : decode code 284 = .ok (.iaload, 1) := by decide +kernel
theorem dL_law_285 : decode code 285 = .ok (.aload_n 0, 1) := by decide +kernel
theorem dL_law_286 : decode code 286 = .ok (.iload 4, 2) := by decide +kernel
theorem dL_law_288 : decode code 288 = .ok (.iconst 2, 1) := by decide +kernel
theorem dL_law_289 : decode code 289 = .ok (.iadd, 1) := by decide +kernel
theorem dL_law_290 : decode code 290 = .ok (.iaload, 1) := by decide +kernel
theorem dL_law_291 : decode code 291 = .ok (.aload_n 0, 1) := by decide +kernel
theorem dL_law_292 : decode code 292 = .ok (.iload 4, 2) := by decide +kernel
theorem dL_law_294 : decode code 294 = .ok (.iconst 3, 1) := by decide +kernel
theorem dL_law_295 : decode code 295 = .ok (.iadd, 1) := by decide +kernel
theorem dL_law_296 : decode code 296 = .ok (.iaload, 1) := by decide +kernel
theorem dL_law_297 : decode code 297 = .ok (.aload_n 0, 1) := by decide +kernel
theorem dL_law_298 : decode code 298 = .ok (.iload 4, 2) := by decide +kernel
theorem dL_law_300 : decode code 300 = .ok (.iconst 4, 1) := by decide +kernel
theorem dL_law_301 : decode code 301 = .ok (.iadd, 1) := by decide +kernel
theorem dL_law_302 : decode code 302 = .ok (.iaload, 1) := by decide +kernel
theorem dL_law_303 : decode code 303 = .ok (.invokevirtual 61, 3) := by decide +kernel
theorem dL_law_306 : decode code 306 = .ok (.aload_n 2, 1) := by decide +kernel
theorem dL_law_307 : decode code 307 = .ok (.aload_n 0, 1) := by decide +kernel
theorem dL_law_308 : decode code 308 = .ok (.iload 4, 2) := by decide +kernel
theorem dL_law_310 : decode code 310 = .ok (.iconst 1, 1) := by decide +kernel
theorem dL_law_311 : decode code 311 = .ok (.iadd, 1) := by decide +kernel
theorem dL_law_312 : decode code 312 = .ok (.iaload, 1) := by decide +kernel
theorem dL_law_313 : decode code 313 = .ok (.aload_n 0, 1) := by decide +kernel
theorem dL_law_314 : decode code 314 = .ok (.iload 4, 2) := by decide +kernel
theorem dL_law_316 : decode code 316 = .ok (.iconst 2, 1) := by decide +kernel
theorem dL_law_317 : decode code 317 = .ok (.iadd, 1) := by decide +kernel
theorem dL_law_318 : decode code 318 = .ok (.iaload, 1) := by decide +kernel
theorem dL_law_319 : decode code 319 = .ok (.aload_n 0, 1) := by decide +kernel
theorem dL_law_320 : decode code 320 = .ok (.iload 4, 2) := by decide +kernel
theorem dL_law_322 : decode code 322 = .ok (.iconst 3, 1) := by decide +kernel
theorem dL_law_323 : decode code 323 = .ok (.iadd, 1) := by decide +kernel
theorem dL_law_324 : decode code 324 = .ok (.iaload, 1) := by decide +kernel
theorem dL_law_325 : decode code 325 = .ok (.aload_n 0, 1) := by decide +kernel
theorem dL_law_326 : decode code 326 = .ok (.iload 4, 2) := by decide +kernel
theorem dL_law_328 : decode code 328 = .ok (.iconst 4, 1) := by decide +kernel
theorem dL_law_329 : decode code 329 = .ok (.iadd, 1) := by decide +kernel
theorem dL_law_330 : decode code 330 = .ok (.iaload, 1) := by decide +kernel
theorem dL_law_331 : decode code 331 = .ok (.invokevirtual 65, 3) := by decide +kernel
theorem dL_law_334 : decode code 334 = .ok (.if_icmp .eq 290, 3) := by decide +kernel
theorem dL_law_337 : decode code 337 = .ok (.iconst 0, 1) := by decide +kernel
theorem dL_law_338 : decode code 338 = .ok (.ireturn, 1) := by decide +kernel
theorem dL_law_339 : decode code 339 = .ok (.aload_n 1, 1) := by decide +kernel
theorem dL_law_340 : decode code 340 = .ok (.aload_n 0, 1) := by decide +kernel
theorem dL_law_341 : decode code 341 = .ok (.iload 4, 2) := by decide +kernel
theorem dL_law_343 : decode code 343 = .ok (.iconst 1, 1) := by decide +kernel
theorem dL_law_344 : decode code 344 = .ok (.iadd, 1) := by decide +kernel
theorem dL_law_345 : decode code 345 = .ok (.iaload, 1) := by decide +kernel
theorem dL_law_346 : decode code 346 = .ok (.aload_n 3, 1) := by decide +kernel
theorem dL_law_347 : decode code 347 = .ok (.invokestatic 66, 3) := by decide +kernel
theorem dL_law_350 : decode code 350 = .ok (.istore 5, 2) := by decide +kernel
theorem dL_law_352 : decode code 352 = .ok (.aload_n 2, 1) := by decide +kernel
theorem dL_law_353 : decode code 353 = .ok (.aload_n 0, 1) := by decide +kernel
theorem dL_law_354 : decode code 354 = .ok (.iload 4, 2) := by decide +kernel
theorem dL_law_356 : decode code 356 = .ok (.iconst 1, 1) := by decide +kernel
theorem dL_law_357 : decode code 357 = .ok (.iadd, 1) := by decide +kernel
theorem dL_law_358 : decode code 358 = .ok (.iaload, 1) := by decide +kernel
theorem dL_law_359 : decode code 359 = .ok (.invokevirtual 68, 3) := by decide +kernel
theorem dL_law_362 : decode code 362 = .ok (.istore 6, 2) := by decide +kernel
theorem dL_law_364 : decode code 364 = .ok (.aload_n 2, 1) := by decide +kernel
theorem dL_law_365 : decode code 365 = .ok (.invokevirtual 45, 3) := by decide +kernel
theorem dL_law_368 : decode code 368 = .ok (.iload 5, 2) := by decide +kernel
theorem dL_law_370 : decode code 370 = .ok (.if_icmp .eq 5, 3) := by decide +kernel
theorem dL_law_373 : decode code 373 = .ok (.iconst 0, 1) := by decide +kernel
theorem dL_law_374 : decode code 374 = .ok (.ireturn, 1) := by decide +kernel
theorem dL_law_375 : decode code 375 = .ok (.iload 5, 2) := by decide +kernel
theorem dL_law_377 : decode code 377 = .ok (.ifCond .ne 15, 3) := by decide +kernel
theorem dL_law_380 : decode code 380 = .ok (.aload_n 3, 1) := by decide +kernel
theorem dL_law_381 : decode code 381 = .ok (.iconst 0, 1) := by decide +kernel
theorem dL_law_382 : decode code 382 = .ok (.laload, 1) := by decide +kernel
theorem dL_law_383 : decode code 383 = .ok (.iload 6, 2) := by decide +kernel
theorem dL_law_385 : decode code 385 = .ok (.i2l, 1) := by decide +kernel
theorem dL_law_386 : decode code 386 = .ok (.lcmp, 1) := by decide +kernel
theorem dL_law_387 : decode code 387 = .ok (.ifCond .eq 5, 3) := by decide +kernel
theorem dL_law_390 : decode code 390 = .ok (.iconst 0, 1) := by decide +kernel
theorem dL_law_391 : decode code 391 = .ok (.ireturn, 1) := by decide +kernel
theorem dL_law_392 : decode code 392 = .ok (.goto 232, 3) := by decide +kernel
theorem dL_law_395 : decode code 395 = .ok (.aload_n 1, 1) := by decide +kernel
theorem dL_law_396 : decode code 396 = .ok (.aload_n 3, 1) := by decide +kernel
theorem dL_law_397 : decode code 397 = .ok (.invokestatic 69, 3) := by decide +kernel
theorem dL_law_400 : decode code 400 = .ok (.istore 5, 2) := by decide +kernel
theorem dL_law_402 : decode code 402 = .ok (.aload_n 2, 1) := by decide +kernel
theorem dL_law_403 : decode code 403 = .ok (.invokevirtual 72, 3) := by decide +kernel
theorem dL_law_406 : decode code 406 = .ok (.istore 6, 2) := by decide +kernel
theorem dL_law_408 : decode code 408 = .ok (.aload_n 2, 1) := by decide +kernel
theorem dL_law_409 : decode code 409 = .ok (.invokevirtual 45, 3) := by decide +kernel
theorem dL_law_412 : decode code 412 = .ok (.iload 5, 2) := by decide +kernel
theorem dL_law_414 : decode code 414 = .ok (.if_icmp .eq 5, 3) := by decide +kernel
theorem dL_law_417 : decode code 417 = .ok (.iconst 0, 1) := by decide +kernel
theorem dL_law_418 : decode code 418 = .ok (.ireturn, 1) := by decide +kernel
theorem dL_law_419 : decode code 419 = .ok (.iload 5, 2) := by decide +kernel
theorem dL_law_421 : decode code 421 = .ok (.ifCond .ne 15, 3) := by decide +kernel
theorem dL_law_424 : decode code 424 = .ok (.aload_n 3, 1) := by decide +kernel
theorem dL_law_425 : decode code 425 = .ok (.iconst 0, 1) := by decide +kernel
theorem dL_law_426 : decode code 426 = .ok (.laload, 1) := by decide +kernel
theorem dL_law_427 : decode code 427 = .ok (.iload 6, 2) := by decide +kernel
theorem dL_law_429 : decode code 429 = .ok (.i2l, 1) := by decide +kernel
theorem dL_law_430 : decode code 430 = .ok (.lcmp, 1) := by decide +kernel
theorem dL_law_431 : decode code 431 = .ok (.ifCond .eq 5, 3) := by decide +kernel
theorem dL_law_434 : decode code 434 = .ok (.iconst 0, 1) := by decide +kernel
theorem dL_law_435 : decode code 435 = .ok (.ireturn, 1) := by decide +kernel
theorem dL_law_436 : decode code 436 = .ok (.goto 188, 3) := by decide +kernel
theorem dL_law_439 : decode code 439 = .ok (.aload_n 1, 1) := by decide +kernel
theorem dL_law_440 : decode code 440 = .ok (.aload_n 0, 1) := by decide +kernel
theorem dL_law_441 : decode code 441 = .ok (.iload 4, 2) := by decide +kernel
theorem dL_law_443 : decode code 443 = .ok (.iconst 1, 1) := by decide +kernel
theorem dL_law_444 : decode code 444 = .ok (.iadd, 1) := by decide +kernel
theorem dL_law_445 : decode code 445 = .ok (.iaload, 1) := by decide +kernel
theorem dL_law_446 : decode code 446 = .ok (.invokestatic 73, 3) := by decide +kernel
theorem dL_law_449 : decode code 449 = .ok (.istore 5, 2) := by decide +kernel
theorem dL_law_451 : decode code 451 = .ok (.aload_n 2, 1) := by decide +kernel
theorem dL_law_452 : decode code 452 = .ok (.aload_n 0, 1) := by decide +kernel
theorem dL_law_453 : decode code 453 = .ok (.iload 4, 2) := by decide +kernel
theorem dL_law_455 : decode code 455 = .ok (.iconst 1, 1) := by decide +kernel
theorem dL_law_456 : decode code 456 = .ok (.iadd, 1) := by decide +kernel
theorem dL_law_457 : decode code 457 = .ok (.iaload, 1) := by decide +kernel
theorem dL_law_458 : decode code 458 = .ok (.invokevirtual 76, 3) := by decide +kernel
theorem dL_law_461 : decode code 461 = .ok (.aload_n 2, 1) := by decide +kernel
theorem dL_law_462 : decode code 462 = .ok (.invokevirtual 45, 3) := by decide +kernel
theorem dL_law_465 : decode code 465 = .ok (.iload 5, 2) := by decide +kernel
theorem dL_law_467 : decode code 467 = .ok (.if_icmp .eq 5, 3) := by decide +kernel
theorem dL_law_470 : decode code 470 = .ok (.iconst 0, 1) := by decide +kernel
theorem dL_law_471 : decode code 471 = .ok (.ireturn, 1) := by decide +kernel
theorem dL_law_472 : decode code 472 = .ok (.goto 152, 3) := by decide +kernel
theorem dL_law_475 : decode code 475 = .ok (.aload_n 1, 1) := by decide +kernel
theorem dL_law_476 : decode code 476 = .ok (.aload_n 0, 1) := by decide +kernel
theorem dL_law_477 : decode code 477 = .ok (.iload 4, 2) := by decide +kernel
theorem dL_law_479 : decode code 479 = .ok (.iconst 1, 1) := by decide +kernel
theorem dL_law_480 : decode code 480 = .ok (.iadd, 1) := by decide +kernel
theorem dL_law_481 : decode code 481 = .ok (.iaload, 1) := by decide +kernel
theorem dL_law_482 : decode code 482 = .ok (.invokevirtual 77, 3) := by decide +kernel
theorem dL_law_485 : decode code 485 = .ok (.aload_n 2, 1) := by decide +kernel
theorem dL_law_486 : decode code 486 = .ok (.aload_n 0, 1) := by decide +kernel
theorem dL_law_487 : decode code 487 = .ok (.iload 4, 2) := by decide +kernel
theorem dL_law_489 : decode code 489 = .ok (.iconst 1, 1) := by decide +kernel
theorem dL_law_490 : decode code 490 = .ok (.iadd, 1) := by decide +kernel
theorem dL_law_491 : decode code 491 = .ok (.iaload, 1) := by decide +kernel
theorem dL_law_492 : decode code 492 = .ok (.invokevirtual 80, 3) := by decide +kernel
theorem dL_law_495 : decode code 495 = .ok (.if_icmp .eq 129, 3) := by decide +kernel
theorem dL_law_498 : decode code 498 = .ok (.iconst 0, 1) := by decide +kernel
theorem dL_law_499 : decode code 499 = .ok (.ireturn, 1) := by decide +kernel
theorem dL_law_500 : decode code 500 = .ok (.aload_n 1, 1) := by decide +kernel
theorem dL_law_501 : decode code 501 = .ok (.aload_n 0, 1) := by decide +kernel
theorem dL_law_502 : decode code 502 = .ok (.iload 4, 2) := by decide +kernel
theorem dL_law_504 : decode code 504 = .ok (.iconst 1, 1) := by decide +kernel
theorem dL_law_505 : decode code 505 = .ok (.iadd, 1) := by decide +kernel
theorem dL_law_506 : decode code 506 = .ok (.iaload, 1) := by decide +kernel
theorem dL_law_507 : decode code 507 = .ok (.aload_n 0, 1) := by decide +kernel
theorem dL_law_508 : decode code 508 = .ok (.iload 4, 2) := by decide +kernel
theorem dL_law_510 : decode code 510 = .ok (.iconst 2, 1) := by decide +kernel
theorem dL_law_511 : decode code 511 = .ok (.iadd, 1) := by decide +kernel
theorem dL_law_512 : decode code 512 = .ok (.iaload, 1) := by decide +kernel
theorem dL_law_513 : decode code 513 = .ok (.invokevirtual 81, 3) := by decide +kernel
theorem dL_law_516 : decode code 516 = .ok (.aload_n 2, 1) := by decide +kernel
theorem dL_law_517 : decode code 517 = .ok (.aload_n 0, 1) := by decide +kernel
theorem dL_law_518 : decode code 518 = .ok (.iload 4, 2) := by decide +kernel
theorem dL_law_520 : decode code 520 = .ok (.iconst 1, 1) := by decide +kernel
theorem dL_law_521 : decode code 521 = .ok (.iadd, 1) := by decide +kernel
theorem dL_law_522 : decode code 522 = .ok (.iaload, 1) := by decide +kernel
theorem dL_law_523 : decode code 523 = .ok (.aload_n 0, 1) := by decide +kernel
theorem dL_law_524 : decode code 524 = .ok (.iload 4, 2) := by decide +kernel
theorem dL_law_526 : decode code 526 = .ok (.iconst 2, 1) := by decide +kernel
theorem dL_law_527 : decode code 527 = .ok (.iadd, 1) := by decide +kernel
theorem dL_law_528 : decode code 528 = .ok (.iaload, 1) := by decide +kernel
theorem dL_law_529 : decode code 529 = .ok (.invokevirtual 84, 3) := by decide +kernel
theorem dL_law_532 : decode code 532 = .ok (.if_icmp .eq 92, 3) := by decide +kernel
theorem dL_law_535 : decode code 535 = .ok (.iconst 0, 1) := by decide +kernel
theorem dL_law_536 : decode code 536 = .ok (.ireturn, 1) := by decide +kernel
theorem dL_law_537 : decode code 537 = .ok (.aload_n 1, 1) := by decide +kernel
theorem dL_law_538 : decode code 538 = .ok (.aload_n 0, 1) := by decide +kernel
theorem dL_law_539 : decode code 539 = .ok (.iload 4, 2) := by decide +kernel
theorem dL_law_541 : decode code 541 = .ok (.iconst 1, 1) := by decide +kernel
theorem dL_law_542 : decode code 542 = .ok (.iadd, 1) := by decide +kernel
theorem dL_law_543 : decode code 543 = .ok (.iaload, 1) := by decide +kernel
theorem dL_law_544 : decode code 544 = .ok (.aload_n 0, 1) := by decide +kernel
theorem dL_law_545 : decode code 545 = .ok (.iload 4, 2) := by decide +kernel
theorem dL_law_547 : decode code 547 = .ok (.iconst 2, 1) := by decide +kernel
theorem dL_law_548 : decode code 548 = .ok (.iadd, 1) := by decide +kernel
theorem dL_law_549 : decode code 549 = .ok (.iaload, 1) := by decide +kernel
theorem dL_law_550 : decode code 550 = .ok (.invokevirtual 85, 3) := by decide +kernel
theorem dL_law_553 : decode code 553 = .ok (.aload_n 2, 1) := by decide +kernel
theorem dL_law_554 : decode code 554 = .ok (.aload_n 0, 1) := by decide +kernel
theorem dL_law_555 : decode code 555 = .ok (.iload 4, 2) := by decide +kernel
theorem dL_law_557 : decode code 557 = .ok (.iconst 1, 1) := by decide +kernel
theorem dL_law_558 : decode code 558 = .ok (.iadd, 1) := by decide +kernel
theorem dL_law_559 : decode code 559 = .ok (.iaload, 1) := by decide +kernel
theorem dL_law_560 : decode code 560 = .ok (.aload_n 0, 1) := by decide +kernel
theorem dL_law_561 : decode code 561 = .ok (.iload 4, 2) := by decide +kernel
theorem dL_law_563 : decode code 563 = .ok (.iconst 2, 1) := by decide +kernel
theorem dL_law_564 : decode code 564 = .ok (.iadd, 1) := by decide +kernel
theorem dL_law_565 : decode code 565 = .ok (.iaload, 1) := by decide +kernel
theorem dL_law_566 : decode code 566 = .ok (.invokevirtual 88, 3) := by decide +kernel
theorem dL_law_569 : decode code 569 = .ok (.if_icmp .eq 55, 3) := by decide +kernel
theorem dL_law_572 : decode code 572 = .ok (.iconst 0, 1) := by decide +kernel
theorem dL_law_573 : decode code 573 = .ok (.ireturn, 1) := by decide +kernel
theorem dL_law_574 : decode code 574 = .ok (.aload_n 1, 1) := by decide +kernel
theorem dL_law_575 : decode code 575 = .ok (.aload_n 0, 1) := by decide +kernel
theorem dL_law_576 : decode code 576 = .ok (.iload 4, 2) := by decide +kernel
theorem dL_law_578 : decode code 578 = .ok (.iconst 1, 1) := by decide +kernel
theorem dL_law_579 : decode code 579 = .ok (.iadd, 1) := by decide +kernel
theorem dL_law_580 : decode code 580 = .ok (.iaload, 1) := by decide +kernel
theorem dL_law_581 : decode code 581 = .ok (.invokevirtual 89, 3) := by decide +kernel
theorem dL_law_584 : decode code 584 = .ok (.aload_n 2, 1) := by decide +kernel
theorem dL_law_585 : decode code 585 = .ok (.aload_n 0, 1) := by decide +kernel
theorem dL_law_586 : decode code 586 = .ok (.iload 4, 2) := by decide +kernel
theorem dL_law_588 : decode code 588 = .ok (.iconst 1, 1) := by decide +kernel
theorem dL_law_589 : decode code 589 = .ok (.iadd, 1) := by decide +kernel
theorem dL_law_590 : decode code 590 = .ok (.iaload, 1) := by decide +kernel
theorem dL_law_591 : decode code 591 = .ok (.invokevirtual 92, 3) := by decide +kernel
theorem dL_law_594 : decode code 594 = .ok (.if_icmp .eq 30, 3) := by decide +kernel
theorem dL_law_597 : decode code 597 = .ok (.iconst 0, 1) := by decide +kernel
theorem dL_law_598 : decode code 598 = .ok (.ireturn, 1) := by decide +kernel
theorem dL_law_599 : decode code 599 = .ok (.aload_n 1, 1) := by decide +kernel
theorem dL_law_600 : decode code 600 = .ok (.aload_n 0, 1) := by decide +kernel
theorem dL_law_601 : decode code 601 = .ok (.iload 4, 2) := by decide +kernel
theorem dL_law_603 : decode code 603 = .ok (.iconst 1, 1) := by decide +kernel
theorem dL_law_604 : decode code 604 = .ok (.iadd, 1) := by decide +kernel
theorem dL_law_605 : decode code 605 = .ok (.iaload, 1) := by decide +kernel
theorem dL_law_606 : decode code 606 = .ok (.invokevirtual 93, 3) := by decide +kernel
theorem dL_law_609 : decode code 609 = .ok (.aload_n 2, 1) := by decide +kernel
theorem dL_law_610 : decode code 610 = .ok (.aload_n 0, 1) := by decide +kernel
theorem dL_law_611 : decode code 611 = .ok (.iload 4, 2) := by decide +kernel
theorem dL_law_613 : decode code 613 = .ok (.iconst 1, 1) := by decide +kernel
theorem dL_law_614 : decode code 614 = .ok (.iadd, 1) := by decide +kernel
theorem dL_law_615 : decode code 615 = .ok (.iaload, 1) := by decide +kernel
theorem dL_law_616 : decode code 616 = .ok (.invokevirtual 96, 3) := by decide +kernel
theorem dL_law_619 : decode code 619 = .ok (.if_icmp .eq 5, 3) := by decide +kernel
theorem dL_law_622 : decode code 622 = .ok (.iconst 0, 1) := by decide +kernel
theorem dL_law_623 : decode code 623 = .ok (.ireturn, 1) := by decide +kernel
theorem dL_law_624 : decode code 624 = .ok (.iinc 4 5, 3) := by decide +kernel
theorem dL_law_627 : decode code 627 = .ok (.goto (-604), 3) := by decide +kernel
theorem dL_law_630 : decode code 630 = .ok (.iconst 1, 1) := by decide +kernel
theorem dL_law_631 : decode code 631 = .ok (.ireturn, 1) := by decide +kernel
end
section
/-! THE ENVIRONMENT OF EVERY CONTRACT: the classes and array classes as the tables have them, the links among nest mates -/
def tysB (ka : Nat → ClassId) : List (ClassId × FieldType) := [(ka 0, .byte), (ka 1, .object RF), (ka 2, .short), (ka 3, .int), (ka 4, .boolean), (ka 5, .long)]
def tk_E (dC : Nat → ClassId) (dI : Nat → Nat → Nat) (ka : Nat → ClassId) (U : State) : Prop := va_K (dC, dI) clB (tysB ka) U ∧ ∀ w ∈ nsB, va_Nw w U
theorem nsB_tab : ∀ w ∈ nsB, w.onTables = true := by decide +kernel
theorem nsB_warm {s U : State} (hW : s.WarmedH U.vm) (h : ∀ w ∈ nsB, va_Nw w s) : ∀ w ∈ nsB, va_Nw w U := by
  intro w hw
  have h0 := h w hw
  simp only [nsB, List.mem_cons, List.not_mem_nil, or_false] at hw
  rcases hw with rfl | rfl | rfl | rfl | rfl | rfl | rfl | rfl | rfl | rfl | rfl | rfl | rfl | rfl | rfl <;> first | exact va_Nw.warmF hW h0 | exact va_Nw.warmM hW h0
theorem tk_E.warm {dC : Nat → ClassId} {dI : Nat → Nat → Nat} {ka : Nat → ClassId} {s U : State} (hW : s.WarmedH U.vm) (h : tk_E dC dI ka s) : tk_E dC dI ka U := ⟨va_K.moved hW.alike h.1, nsB_warm hW h.2⟩
theorem tk_E.call {dC : Nat → ClassId} {dI : Nat → Nat → Nat} {ka : Nat → ClassId} {U : State} (h : tk_E dC dI ka U) {g : JFrame} {mk : MethodId} {a : Array Value} : tk_E dC dI ka (U.calling g mk a) :=
  ⟨va_K.moved (u := U) (U := U.calling g mk a) (Vm.Alike.refl U.vm) h.1, fun w hw => va_Nw.same (u := U) (U := U.calling g mk a) (nsB_tab w hw) rfl (h.2 w hw)⟩
theorem tw_I {cx cy : Cond} (h5 : cy ∈ lwg) : GoodIn (cx :: lwg) (cy :: lwg) := by
  intro w hw
  have key : w ∈ lwg := by
    rcases List.mem_cons.mp hw with rfl | h
    · exact h5
    · exact h
  exact ⟨List.mem_cons_of_mem _ key, good_of_word (lwg_good key)⟩
theorem tw_V {cx cy : Cond} {own C : String} {idx : Nat} {y : MethodName} (h1 : Cond.methodLink own idx y ∈ lwg) (h2 : Cond.instanceMethod y ∈ lwg) (h3 : Cond.selects C y y ∈ lwg) (h4 : Cond.initialized C ∈ lwg) (h5 : cy ∈ lwg) : GoodIn (cx :: lwg) (wsV own idx C y (cy :: lwg)) := by
  intro w hw
  have key : w ∈ lwg := by
    simp only [wsV, List.mem_append, List.mem_cons, List.not_mem_nil, or_false] at hw
    rcases hw with (rfl | rfl | rfl | rfl) | rfl | hw
    all_goals assumption
  exact ⟨List.mem_cons_of_mem _ key, good_of_word (lwg_good key)⟩
theorem tw_S {cx cy : Cond} {own : String} {idx : Nat} {y : MethodName} (h1 : Cond.methodLink own idx y ∈ lwg) (h2 : Cond.static y ∈ lwg) (h4 : Cond.initialized own ∈ lwg) (h5 : cy ∈ lwg) : GoodIn (cx :: lwg) (wsS own idx y (cy :: lwg)) := by
  intro w hw
  have key : w ∈ lwg := by
    simp only [wsS, List.mem_append, List.mem_cons, List.not_mem_nil, or_false] at hw
    rcases hw with (rfl | rfl | rfl) | rfl | hw
    all_goals assumption
  exact ⟨List.mem_cons_of_mem _ key, good_of_word (lwg_good key)⟩
theorem tw_A {cx cy : Cond} {own : String} {idx : Nat} {y : MethodName} (h1 : Cond.methodLink own idx y ∈ lwg) (h2 : Cond.static y ∈ lwg) (h4 : Cond.initialized y.cls ∈ lwg) (h5 : cy ∈ lwg) : GoodIn (cx :: lwg) (va_wsS own idx y (cy :: lwg)) := by
  intro w hw
  have key : w ∈ lwg := by
    simp only [va_wsS, List.mem_append, List.mem_cons, List.not_mem_nil, or_false] at hw
    rcases hw with (rfl | rfl | rfl) | rfl | hw
    all_goals assumption
  exact ⟨List.mem_cons_of_mem _ key, good_of_word (lwg_good key)⟩
theorem inC {cx : Cond} {ws : List Cond} (h : ∀ w ∈ ws, w ∈ lwg) : ∀ w ∈ ws, w ∈ cx :: lwg := fun w hw => List.mem_cons_of_mem _ (h w hw)
section TKA
variable {p : Program} {l : Launch} {e : Env} {R : Room} {s : State} {m : MethodId} {args : Array Value} {below : List Frame} {meth : Method} {c : Code} {H : Heap} {locs : List Loc} {cells slots : Nat} {Q : State → Prop}
variable {cc : ByteArray} {pc : Nat} {ls : Array Slot} {rest : List Value} {D : va_G} {cl : List vw_C} {A : Nat → Prop} {a : Nat} {tys : List (ClassId × FieldType)} {ws : va_W} {H0 : Heap}
theorem tk_bald (hexec : p.tables.exec = Jvm.exec) (hb : c.code = cc) (hK : va_K D cl tys s) (hP : va_P D cl ws H) (q0 t0 : Nat) {cA : ClassId} {N n : Nat} {f : Nat → Int32} (ha : ws[q0]? = some (a, .inl (cA, N, .inl f))) (ht : tys[t0]? = some (cA, .byte)) {i : Int32} (hi : i = nI n) (hn : n < N) (hN : N < 2 ^ 31) (hdg : decode cc pc = .ok (.baload, 1))
    (kk : W p l e R s m args below meth c H locs cells slots Q (F0 m (pc + 1) ls (.int (f n) :: rest))) : W p l e R s m args below meth c H locs cells slots Q (F0 m pc ls (.int i :: .ref a :: rest)) := by
  subst hi
  refine va_bald hexec hb hK hP q0 t0 ha ht (vp_in_nI hn hN) hdg ?_
  rw [nI_clamp (by omega)]
  exact kk
theorem tk_zald (hexec : p.tables.exec = Jvm.exec) (hb : c.code = cc) (hK : va_K D cl tys s) (hP : va_P D cl ws H) (q0 t0 : Nat) {cA : ClassId} {N n : Nat} {f : Nat → Int32} (ha : ws[q0]? = some (a, .inl (cA, N, .inl f))) (ht : tys[t0]? = some (cA, .boolean)) {i : Int32} (hi : i = nI n) (hn : n < N) (hN : N < 2 ^ 31) (hdg : decode cc pc = .ok (.baload, 1))
    (kk : W p l e R s m args below meth c H locs cells slots Q (F0 m (pc + 1) ls (.int (f n) :: rest))) : W p l e R s m args below meth c H locs cells slots Q (F0 m pc ls (.int i :: .ref a :: rest)) := by
  subst hi
  refine va_zald hexec hb hK hP q0 t0 ha ht (vp_in_nI hn hN) hdg ?_
  rw [nI_clamp (by omega)]
  exact kk
theorem tk_iald (hexec : p.tables.exec = Jvm.exec) (hb : c.code = cc) (hK : va_K D cl tys s) (hP : va_P D cl ws H) (q0 t0 : Nat) {cA : ClassId} {N n : Nat} {f : Nat → Int32} (ha : ws[q0]? = some (a, .inl (cA, N, .inl f))) (ht : tys[t0]? = some (cA, .int)) {i : Int32} (hi : i = nI n) (hn : n < N) (hN : N < 2 ^ 31) (hdg : decode cc pc = .ok (.iaload, 1))
    (kk : W p l e R s m args below meth c H locs cells slots Q (F0 m (pc + 1) ls (.int (f n) :: rest))) : W p l e R s m args below meth c H locs cells slots Q (F0 m pc ls (.int i :: .ref a :: rest)) := by
  subst hi
  refine va_iald hexec hb hK hP q0 t0 ha ht (vp_in_nI hn hN) hdg ?_
  rw [nI_clamp (by omega)]
  exact kk
theorem tk_sald (hexec : p.tables.exec = Jvm.exec) (hb : c.code = cc) (hK : va_K D cl tys s) (hP : va_P D cl ws H) (q0 t0 : Nat) {cA : ClassId} {N n : Nat} {f : Nat → Int32} (ha : ws[q0]? = some (a, .inl (cA, N, .inl f))) (ht : tys[t0]? = some (cA, .short)) {i : Int32} (hi : i = nI n) (hn : n < N) (hN : N < 2 ^ 31) (hdg : decode cc pc = .ok (.saload, 1))
    (kk : W p l e R s m args below meth c H locs cells slots Q (F0 m (pc + 1) ls (.int (f n) :: rest))) : W p l e R s m args below meth c H locs cells slots Q (F0 m pc ls (.int i :: .ref a :: rest)) := by
  subst hi
  refine va_sald hexec hb hK hP q0 t0 ha ht (vp_in_nI hn hN) hdg ?_
  rw [nI_clamp (by omega)]
  exact kk
theorem tk_aald (hexec : p.tables.exec = Jvm.exec) (hb : c.code = cc) (hK : va_K D cl tys s) (hP : va_P D cl ws H) (q0 t0 : Nat) {cA : ClassId} {C : String} {N n y : Nat} {f : Nat → Option Nat} (ha : ws[q0]? = some (a, .inl (cA, N, .inr (.inr (.inr (.inr f)))))) (ht : tys[t0]? = some (cA, .object C)) {i : Int32} (hi : i = nI n) (hn : n < N) (hN : N < 2 ^ 31) (hf : f n = some y) (hdg : decode cc pc = .ok (.aaload, 1))
    (kk : W p l e R s m args below meth c H locs cells slots Q (F0 m (pc + 1) ls (.ref y :: rest))) : W p l e R s m args below meth c H locs cells slots Q (F0 m pc ls (.int i :: .ref a :: rest)) := by
  subst hi
  refine va_aldq hexec hb hK hP q0 t0 ha ht (vp_in_nI hn hN) hdg ?_
  rw [nI_clamp (by omega), hf]
  exact kk
theorem tk_bast (hexec : p.tables.exec = Jvm.exec) (hb : c.code = cc) (hK : va_K D cl tys s) (hP : va_P D cl ws H) (hD : va_D A ws) (hS : va_S A H0 H locs) (q0 t0 : Nat) {cA : ClassId} {N n : Nat} {f : Nat → Int32} (ha : ws[q0]? = some (a, .inl (cA, N, .inl f))) (ht : tys[t0]? = some (cA, .byte)) {i x v : Int32} (hi : i = nI n) (hn : n < N) (hN : N < 2 ^ 31) (hv : x.toInt8.toInt32 = v) (hdg : decode cc pc = .ok (.bastore, 1))
    (kk : ∀ (H1 : Heap) (locs1 : List Loc), va_P D cl (ws.set q0 (a, .inl (cA, N, .inl (upd f n v)))) H1 → va_D A (ws.set q0 (a, .inl (cA, N, .inl (upd f n v)))) → va_S A H0 H1 locs1 → W p l e R s m args below meth c H1 locs1 cells slots Q (F0 m (pc + 1) ls rest)) : W p l e R s m args below meth c H locs cells slots Q (F0 m pc ls (.int x :: .int i :: .ref a :: rest)) := by
  subst hi
  subst hv
  refine va_bast hexec hb hK hP hD hS q0 t0 ha ht (vp_in_nI hn hN) hdg ?_
  rw [nI_clamp (by omega), vp_nar_byte]
  exact kk
theorem tk_zast (hexec : p.tables.exec = Jvm.exec) (hb : c.code = cc) (hK : va_K D cl tys s) (hP : va_P D cl ws H) (hD : va_D A ws) (hS : va_S A H0 H locs) (q0 t0 : Nat) {cA : ClassId} {N n : Nat} {f : Nat → Int32} (ha : ws[q0]? = some (a, .inl (cA, N, .inl f))) (ht : tys[t0]? = some (cA, .boolean)) {i x v : Int32} (hi : i = nI n) (hn : n < N) (hN : N < 2 ^ 31) (hv : vp_nar .boolean x = v) (hdg : decode cc pc = .ok (.bastore, 1))
    (kk : ∀ (H1 : Heap) (locs1 : List Loc), va_P D cl (ws.set q0 (a, .inl (cA, N, .inl (upd f n v)))) H1 → va_D A (ws.set q0 (a, .inl (cA, N, .inl (upd f n v)))) → va_S A H0 H1 locs1 → W p l e R s m args below meth c H1 locs1 cells slots Q (F0 m (pc + 1) ls rest)) : W p l e R s m args below meth c H locs cells slots Q (F0 m pc ls (.int x :: .int i :: .ref a :: rest)) := by
  subst hi
  subst hv
  refine va_zast hexec hb hK hP hD hS q0 t0 ha ht (vp_in_nI hn hN) hdg ?_
  rw [nI_clamp (by omega)]
  exact kk
theorem tk_iast (hexec : p.tables.exec = Jvm.exec) (hb : c.code = cc) (hK : va_K D cl tys s) (hP : va_P D cl ws H) (hD : va_D A ws) (hS : va_S A H0 H locs) (q0 t0 : Nat) {cA : ClassId} {N n : Nat} {f : Nat → Int32} (ha : ws[q0]? = some (a, .inl (cA, N, .inl f))) (ht : tys[t0]? = some (cA, .int)) {i x : Int32} (hi : i = nI n) (hn : n < N) (hN : N < 2 ^ 31) (hdg : decode cc pc = .ok (.iastore, 1))
    (kk : ∀ (H1 : Heap) (locs1 : List Loc), va_P D cl (ws.set q0 (a, .inl (cA, N, .inl (upd f n x)))) H1 → va_D A (ws.set q0 (a, .inl (cA, N, .inl (upd f n x)))) → va_S A H0 H1 locs1 → W p l e R s m args below meth c H1 locs1 cells slots Q (F0 m (pc + 1) ls rest)) : W p l e R s m args below meth c H locs cells slots Q (F0 m pc ls (.int x :: .int i :: .ref a :: rest)) := by
  subst hi
  refine va_iast hexec hb hK hP hD hS q0 t0 ha ht (vp_in_nI hn hN) hdg ?_
  rw [nI_clamp (by omega)]
  exact kk
theorem tk_sast (hexec : p.tables.exec = Jvm.exec) (hb : c.code = cc) (hK : va_K D cl tys s) (hP : va_P D cl ws H) (hD : va_D A ws) (hS : va_S A H0 H locs) (q0 t0 : Nat) {cA : ClassId} {N n : Nat} {f : Nat → Int32} (ha : ws[q0]? = some (a, .inl (cA, N, .inl f))) (ht : tys[t0]? = some (cA, .short)) {i x v : Int32} (hi : i = nI n) (hn : n < N) (hN : N < 2 ^ 31) (hv : x.toInt16.toInt32 = v) (hdg : decode cc pc = .ok (.sastore, 1))
    (kk : ∀ (H1 : Heap) (locs1 : List Loc), va_P D cl (ws.set q0 (a, .inl (cA, N, .inl (upd f n v)))) H1 → va_D A (ws.set q0 (a, .inl (cA, N, .inl (upd f n v)))) → va_S A H0 H1 locs1 → W p l e R s m args below meth c H1 locs1 cells slots Q (F0 m (pc + 1) ls rest)) : W p l e R s m args below meth c H locs cells slots Q (F0 m pc ls (.int x :: .int i :: .ref a :: rest)) := by
  subst hi
  subst hv
  refine va_sast hexec hb hK hP hD hS q0 t0 ha ht (vp_in_nI hn hN) hdg ?_
  rw [nI_clamp (by omega), vp_nar_short]
  exact kk
end TKA
end
section
/-! ROWS OF CELLS: n cells at the addresses a 0, a 1, ..; one cell of a world set anew behind a call -/
def tk_row (n : Nat) (a : Nat → Nat) (E : Nat → va_E) : va_W := (List.range n).map (fun i => (a i, E i))
theorem tk_row_len {n : Nat} {a : Nat → Nat} {E : Nat → va_E} : (tk_row n a E).length = n := by simp [tk_row]
theorem tk_row_get {n i : Nat} {a : Nat → Nat} {E : Nat → va_E} (h : i < n) : (tk_row n a E)[i]? = some (a i, E i) := by
  simp only [tk_row, List.getElem?_map, List.getElem?_range h]
  rfl
theorem tk_row_out {n i : Nat} {a : Nat → Nat} {E : Nat → va_E} (h : n ≤ i) : (tk_row n a E)[i]? = none := List.getElem?_eq_none (by rw [tk_row_len]; exact h)
theorem tk_row_set {n i : Nat} {a : Nat → Nat} {E : Nat → va_E} {e : va_E} (h : i < n) : (tk_row n a E).set i (a i, e) = tk_row n a (va_up E i e) := by
  apply List.ext_getElem?
  intro j
  by_cases hj : j = i
  · subst hj
    rw [List.getElem?_set_self (by rw [tk_row_len]; exact h), tk_row_get h, va_up_self]
  · rw [List.getElem?_set_ne (Ne.symm hj)]
    by_cases hn : j < n
    · rw [tk_row_get hn, tk_row_get hn, va_up_ne _ _ hj]
    · rw [tk_row_out (by omega), tk_row_out (by omega)]
theorem tk_row_congr {n : Nat} {a : Nat → Nat} {E E' : Nat → va_E} (h : ∀ i, i < n → E i = E' i) : tk_row n a E = tk_row n a E' := by
  unfold tk_row
  apply List.map_congr_left
  intro i hi
  rw [h i (List.mem_range.mp hi)]
/-- one cell out of a world -/
theorem tk_one {D : va_G} {cl : List vw_C} {ws : va_W} {H : Heap} {k : Nat} {q : Nat × va_E} (h : va_P D cl ws H) (hk : ws[k]? = some q) : va_P D cl [q] H := by
  intro j x hj
  have hz : j < 1 := (List.getElem?_eq_some_iff.mp hj).1
  rw [show j = 0 by omega] at hj
  cases hj
  exact h k q hk
theorem tk_two {D : va_G} {cl : List vw_C} {ws : va_W} {H : Heap} {k k' : Nat} {q q' : Nat × va_E} (h : va_P D cl ws H) (hk : ws[k]? = some q) (hk' : ws[k']? = some q') : va_P D cl [q, q'] H := by
  intro j x hj
  have hz : j < 2 := (List.getElem?_eq_some_iff.mp hj).1
  rcases (show j = 0 ∨ j = 1 by omega) with rfl | rfl
  · cases hj; exact h k q hk
  · cases hj; exact h k' q' hk'
theorem tk_three {D : va_G} {cl : List vw_C} {ws : va_W} {H : Heap} {k k' k2 : Nat} {q q' q2 : Nat × va_E} (h : va_P D cl ws H) (hk : ws[k]? = some q) (hk' : ws[k']? = some q') (hk2 : ws[k2]? = some q2) : va_P D cl [q, q', q2] H := by
  intro j x hj
  have hz : j < 3 := (List.getElem?_eq_some_iff.mp hj).1
  rcases (show j = 0 ∨ j = 1 ∨ j = 2 by omega) with rfl | rfl | rfl
  · cases hj; exact h k q hk
  · cases hj; exact h k' q' hk'
  · cases hj; exact h k2 q2 hk2
theorem tk_dtwo {A : Nat → Prop} {ws : va_W} {k k' : Nat} {q q' : Nat × va_E} (h : va_D A ws) (hk : ws[k]? = some q) (hk' : ws[k']? = some q') (hne : k ≠ k') : va_D (fun _ => True) [q, q'] := by
  have hab : q.1 ≠ q'.1 := fun z => hne (h.1 k k' q q' hk hk' z)
  refine ⟨fun i j x y hi hj hxy => ?_, fun _ _ _ => trivial⟩
  have h1 : i < 2 := (List.getElem?_eq_some_iff.mp hi).1
  have h2 : j < 2 := (List.getElem?_eq_some_iff.mp hj).1
  rcases (show i = 0 ∨ i = 1 by omega) with rfl | rfl <;> rcases (show j = 0 ∨ j = 1 by omega) with rfl | rfl <;> cases hi <;> cases hj
  · rfl
  · exact absurd hxy hab
  · exact absurd hxy.symm hab
  · rfl
theorem tk_done {q : Nat × va_E} : va_D (fun _ => True) [q] := by
  refine ⟨fun i j x y hi hj hxy => ?_, fun _ _ _ => trivial⟩
  have h1 : i < 1 := (List.getElem?_eq_some_iff.mp hi).1
  have h2 : j < 1 := (List.getElem?_eq_some_iff.mp hj).1
  omega
theorem tk_dthree {A : Nat → Prop} {ws : va_W} {k k' k2 : Nat} {q q' q2 : Nat × va_E} (h : va_D A ws) (hk : ws[k]? = some q) (hk' : ws[k']? = some q') (hk2 : ws[k2]? = some q2) (h1 : k ≠ k') (h2 : k ≠ k2) (h3 : k' ≠ k2) : va_D (fun _ => True) [q, q', q2] := by
  have hab : q.1 ≠ q'.1 := fun z => h1 (h.1 k k' q q' hk hk' z)
  have hac : q.1 ≠ q2.1 := fun z => h2 (h.1 k k2 q q2 hk hk2 z)
  have hbc : q'.1 ≠ q2.1 := fun z => h3 (h.1 k' k2 q' q2 hk' hk2 z)
  refine ⟨fun i j x y hi hj hxy => ?_, fun _ _ _ => trivial⟩
  have g1 : i < 3 := (List.getElem?_eq_some_iff.mp hi).1
  have g2 : j < 3 := (List.getElem?_eq_some_iff.mp hj).1
  rcases (show i = 0 ∨ i = 1 ∨ i = 2 by omega) with rfl | rfl | rfl <;> rcases (show j = 0 ∨ j = 1 ∨ j = 2 by omega) with rfl | rfl | rfl <;> cases hi <;> cases hj
  · rfl
  · exact absurd hxy hab
  · exact absurd hxy hac
  · exact absurd hxy.symm hab
  · rfl
  · exact absurd hxy hbc
  · exact absurd hxy.symm hac
  · exact absurd hxy.symm hbc
  · rfl
/-- the cells that a callee had -/
theorem tk_free {A0 : Nat → Prop} {ws wc : va_W} {H0 H : Heap} {locs : List Loc} (hD : va_D A0 ws) (hS : va_S A0 H0 H locs) (hA : ∀ q, H0.size ≤ q → A0 q) (hC : ∀ x ∈ wc, ∃ k : Nat, ws[k]? = some x) : ∀ q, va_A wc H.size q → A0 q := by
  intro q h
  rcases h with ⟨k, e, h⟩ | h
  · obtain ⟨j, hj⟩ := hC (q, e) (List.mem_of_getElem? h)
    exact hD.2 j (q, e) hj
  · exact hA q (Nat.le_trans hS.1 h)
/-- behind a call that had one cell of the world -/
theorem tk_join1 {A0 : Nat → Prop} {D : va_G} {cl : List vw_C} {ws : va_W} {a : Nat} {e e' : va_E} {H H1 : Heap} {k : Nat} (hP : va_P D cl ws H) (hD : va_D A0 ws) (hk : ws[k]? = some (a, e))
    (ho : ∀ q : Nat, q < H.size → ¬ va_A [(a, e)] H.size q → H1[q]? = H[q]?) (hP1 : va_P D cl [(a, e')] H1) : va_P D cl (ws.set k (a, e')) H1 ∧ va_D A0 (ws.set k (a, e')) := by
  have hl := (List.getElem?_eq_some_iff.mp hk).1
  refine ⟨fun j q hj => ?_, hD.set hk⟩
  by_cases hjk : j = k
  · subst hjk
    rw [List.getElem?_set_self hl] at hj
    cases hj
    exact hP1 0 _ rfl
  · rw [List.getElem?_set_ne (Ne.symm hjk)] at hj
    have hlt := (hP j q hj).lt
    refine (hP j q hj).kept (ho q.1 hlt ?_)
    rintro (⟨i, x, hi⟩ | h)
    · have hz : i < 1 := (List.getElem?_eq_some_iff.mp hi).1
      rw [show i = 0 by omega] at hi
      cases hi
      exact hjk (hD.1 j k q (q.1, e) hj hk rfl)
    · omega
/-- behind a call that had two cells of the world -/
theorem tk_join2 {A0 : Nat → Prop} {D : va_G} {cl : List vw_C} {ws : va_W} {a b : Nat} {e e' f f' : va_E} {H H1 : Heap} {k k' : Nat} (hP : va_P D cl ws H) (hD : va_D A0 ws) (hk : ws[k]? = some (a, e)) (hk' : ws[k']? = some (b, f)) (hne : k ≠ k')
    (ho : ∀ q : Nat, q < H.size → ¬ va_A [(a, e), (b, f)] H.size q → H1[q]? = H[q]?) (hP1 : va_P D cl [(a, e'), (b, f')] H1) : va_P D cl ((ws.set k (a, e')).set k' (b, f')) H1 ∧ va_D A0 ((ws.set k (a, e')).set k' (b, f')) := by
  have hl := (List.getElem?_eq_some_iff.mp hk).1
  have hl' := (List.getElem?_eq_some_iff.mp hk').1
  have hk2 : (ws.set k (a, e'))[k']? = some (b, f) := by rw [List.getElem?_set_ne hne]; exact hk'
  refine ⟨fun j q hj => ?_, (hD.set hk).set hk2⟩
  by_cases hjk' : j = k'
  · subst hjk'
    rw [List.getElem?_set_self (by rw [List.length_set]; exact hl')] at hj
    cases hj
    exact hP1 1 _ rfl
  · rw [List.getElem?_set_ne (Ne.symm hjk')] at hj
    by_cases hjk : j = k
    · subst hjk
      rw [List.getElem?_set_self hl] at hj
      cases hj
      exact hP1 0 _ rfl
    · rw [List.getElem?_set_ne (Ne.symm hjk)] at hj
      have hlt := (hP j q hj).lt
      refine (hP j q hj).kept (ho q.1 hlt ?_)
      rintro (⟨i, x, hi⟩ | h)
      · have hz : i < 2 := (List.getElem?_eq_some_iff.mp hi).1
        rcases (show i = 0 ∨ i = 1 by omega) with rfl | rfl
        · cases hi
          exact hjk (hD.1 j k q (q.1, e) hj hk rfl)
        · cases hi
          exact hjk' (hD.1 j k' q (q.1, f) hj hk' rfl)
      · omega
end
section
theorem tk_free1 {A0 : Nat → Prop} {ws : va_W} {H0 H : Heap} {locs : List Loc} {k : Nat} {q : Nat × va_E} (hD : va_D A0 ws) (hS : va_S A0 H0 H locs) (hA : ∀ q, H0.size ≤ q → A0 q) (hk : ws[k]? = some q) : ∀ z, va_A [q] H.size z → A0 z :=
  tk_free hD hS hA (fun x hx => ⟨k, by rw [List.mem_singleton.mp hx]; exact hk⟩)
theorem tk_free2 {A0 : Nat → Prop} {ws : va_W} {H0 H : Heap} {locs : List Loc} {k k' : Nat} {q q' : Nat × va_E} (hD : va_D A0 ws) (hS : va_S A0 H0 H locs) (hA : ∀ q, H0.size ≤ q → A0 q) (hk : ws[k]? = some q) (hk' : ws[k']? = some q') : ∀ z, va_A [q, q'] H.size z → A0 z :=
  tk_free hD hS hA (fun x hx => by
    rcases List.mem_cons.mp hx with rfl | h
    · exact ⟨k, hk⟩
    · rw [List.mem_singleton.mp h]; exact ⟨k', hk'⟩)
theorem tk_free3 {A0 : Nat → Prop} {ws : va_W} {H0 H : Heap} {locs : List Loc} {k k' k2 : Nat} {q q' q2 : Nat × va_E} (hD : va_D A0 ws) (hS : va_S A0 H0 H locs) (hA : ∀ q, H0.size ≤ q → A0 q) (hk : ws[k]? = some q) (hk' : ws[k']? = some q') (hk2 : ws[k2]? = some q2) : ∀ z, va_A [q, q', q2] H.size z → A0 z :=
  tk_free hD hS hA (fun x hx => by
    rcases List.mem_cons.mp hx with rfl | h
    · exact ⟨k, hk⟩
    · rcases List.mem_cons.mp h with rfl | h
      · exact ⟨k', hk'⟩
      · rw [List.mem_singleton.mp h]; exact ⟨k2, hk2⟩)
/-- behind a call that had three cells of the world -/
theorem tk_join3 {A0 : Nat → Prop} {D : va_G} {cl : List vw_C} {ws : va_W} {a b d : Nat} {e e' f f' g g' : va_E} {H H1 : Heap} {k k' k2 : Nat} (hP : va_P D cl ws H) (hD : va_D A0 ws) (hk : ws[k]? = some (a, e)) (hk' : ws[k']? = some (b, f)) (hk2 : ws[k2]? = some (d, g)) (h1 : k ≠ k') (h2 : k ≠ k2) (h3 : k' ≠ k2)
    (ho : ∀ q : Nat, q < H.size → ¬ va_A [(a, e), (b, f), (d, g)] H.size q → H1[q]? = H[q]?) (hP1 : va_P D cl [(a, e'), (b, f'), (d, g')] H1) : va_P D cl (((ws.set k (a, e')).set k' (b, f')).set k2 (d, g')) H1 ∧ va_D A0 (((ws.set k (a, e')).set k' (b, f')).set k2 (d, g')) := by
  have hl := (List.getElem?_eq_some_iff.mp hk).1
  have hl' := (List.getElem?_eq_some_iff.mp hk').1
  have hl2 := (List.getElem?_eq_some_iff.mp hk2).1
  have g1 : (ws.set k (a, e'))[k']? = some (b, f) := by rw [List.getElem?_set_ne h1]; exact hk'
  have g2 : ((ws.set k (a, e')).set k' (b, f'))[k2]? = some (d, g) := by rw [List.getElem?_set_ne h3, List.getElem?_set_ne h2]; exact hk2
  refine ⟨fun j q hj => ?_, ((hD.set hk).set g1).set g2⟩
  by_cases hj2 : j = k2
  · subst hj2
    rw [List.getElem?_set_self (by simpa using hl2)] at hj
    cases hj
    exact hP1 2 _ rfl
  · rw [List.getElem?_set_ne (Ne.symm hj2)] at hj
    by_cases hjk' : j = k'
    · subst hjk'
      rw [List.getElem?_set_self (by simpa using hl')] at hj
      cases hj
      exact hP1 1 _ rfl
    · rw [List.getElem?_set_ne (Ne.symm hjk')] at hj
      by_cases hjk : j = k
      · subst hjk
        rw [List.getElem?_set_self hl] at hj
        cases hj
        exact hP1 0 _ rfl
      · rw [List.getElem?_set_ne (Ne.symm hjk)] at hj
        have hlt := (hP j q hj).lt
        refine (hP j q hj).kept (ho q.1 hlt ?_)
        rintro (⟨i, x, hi⟩ | h)
        · have hz : i < 3 := (List.getElem?_eq_some_iff.mp hi).1
          rcases (show i = 0 ∨ i = 1 ∨ i = 2 by omega) with rfl | rfl | rfl
          · cases hi
            exact hjk (hD.1 j k q (q.1, e) hj hk rfl)
          · cases hi
            exact hjk' (hD.1 j k' q (q.1, f) hj hk' rfl)
          · cases hi
            exact hj2 (hD.1 j k2 q (q.1, g) hj hk2 rfl)
        · omega
/-- a loop, by a measure n -/
theorem tk_loop {p : Program} {l : Launch} {e : Env} {R : Room} {s : State} {m : MethodId} {args : Array Value} {below : List Frame} {meth : Method} {c : Code} {cells slots : Nat} {Q : State → Prop} {σ : Type} (pc : Nat) (I : Nat → σ → Heap → List Loc → Array Slot → Prop)
    (step : ∀ (n : Nat) (x : σ) (H : Heap) (locs : List Loc) (ls : Array Slot), I n x H locs ls → (∀ (n' : Nat) (x' : σ) (H' : Heap) (locs' : List Loc) (ls' : Array Slot), n' < n → I n' x' H' locs' ls' → W p l e R s m args below meth c H' locs' cells slots Q (F0 m pc ls' [])) → W p l e R s m args below meth c H locs cells slots Q (F0 m pc ls []))
    (n : Nat) (x : σ) {H : Heap} {locs : List Loc} {ls : Array Slot} (h : I n x H locs ls) : W p l e R s m args below meth c H locs cells slots Q (F0 m pc ls []) := by
  have key : ∀ (k n : Nat) (x : σ) (H : Heap) (locs : List Loc) (ls : Array Slot), n < k → I n x H locs ls → W p l e R s m args below meth c H locs cells slots Q (F0 m pc ls []) := by
    intro k
    induction k with
    | zero => intro n x H locs ls h; omega
    | succ k ih => intro n x H locs ls hn hI; exact step n x H locs ls hI (fun n' x' H' locs' ls' hn' hI' => ih n' x' H' locs' ls' (by omega) hI')
  exact key (n + 1) n x H locs ls (by omega) h
/-- an array's contents matter below its length alone -/
theorem tk_cellc {cA : ClassId} {N : Nat} {f g : Nat → Int32} (h : ∀ j, j < N → f j = g j) : vp_cell cA (N, .inl f) = vp_cell cA (N, .inl g) := by
  rw [vp_cell_i, vp_cell_i]
  have e : ∀ k : Nat, (arrV cA N (fun j => Value.int (f j))).slots[k]? = (arrV cA N (fun j => Value.int (g j))).slots[k]? := by
    intro k
    by_cases hk : k < N
    · rw [arrV_read _ _ hk, arrV_read _ _ hk, h k hk]
    · rw [Array.getElem?_eq_none (by rw [arrV_size]; omega), Array.getElem?_eq_none (by rw [arrV_size]; omega)]
  have e2 : (arrV cA N (fun j => Value.int (f j))).slots = (arrV cA N (fun j => Value.int (g j))).slots := Array.ext_getElem? e
  unfold arrV at e2 ⊢
  simp only at e2 ⊢
  rw [e2]
end
section
section TKP
variable {p : Program} {l : Launch} {e : Env} {R : Room} {s : State} {m : MethodId} {args : Array Value} {below : List Frame} {meth : Method} {c : Code} {H : Heap} {locs : List Loc} {cells slots : Nat} {Q : State → Prop}
variable {cc : ByteArray} {pc : Nat} {ls : Array Slot} {rest : List Value} {D : va_G} {cl : List vw_C} {A : Nat → Prop} {a : Nat} {tys : List (ClassId × FieldType)} {ws : va_W} {H0 : Heap}
theorem tk_copy {sn dn nn : Nat} (hexec : p.tables.exec = Jvm.exec) (hb : c.code = cc) (hml : c.maxLocals = ls.size) {own : String} {index : Nat} (hown : s.vm.findClass own = some m.cls) (hlink : (Cond.methodLink own index arraycopyName).before args s = true) (hnat : (Cond.native arraycopyName).before args s = true) (hstat : (Cond.static arraycopyName).before args s = true) (hini : (Cond.initialized "java/lang/System").before args s = true)
    (hK : va_K D cl tys s) (hP : va_P D cl ws H) (hD : va_D A ws) (hS : va_S A H0 H locs) (q0 q1 t0 t1 : Nat) {a0 : Nat} {c0 c1 : ClassId} {n0 n1 : Nat} {f g : Nat → Int32} (ha0 : ws[q0]? = some (a0, .inl (c0, n0, .inl f))) (ha1 : ws[q1]? = some (a, .inl (c1, n1, .inl g))) (ht0 : tys[t0]? = some (c0, .byte)) (ht1 : tys[t1]? = some (c1, .byte))
    {sp dp n : Int32} (hsp : sp = nI sn) (hdp : dp = nI dn) (hn : n = nI nn) (h4 : sn + nn ≤ n0) (h5 : dn + nn ≤ n1) (hfit : sb_Fit f) (hsm : n0 < 2 ^ 31 ∧ n1 < 2 ^ 31)
    (hframes : 1 ≤ R.frames) (hlocals : (rest.map fun v => v.category).sum + (nativeFrameWords "java/lang/System" "arraycopy" 5 + 11) ≤ R.locals) (hdg : decode cc pc = .ok (.invokestatic index, 3))
    (kk : ∀ (H1 : Heap) (locs1 : List Loc), va_P D cl (ws.set q1 (a, .inl (c1, n1, .inl (va_cpy f g sn dn nn)))) H1 → va_D A (ws.set q1 (a, .inl (c1, n1, .inl (va_cpy f g sn dn nn)))) → va_S A H0 H1 locs1 → W p l e R s m args below meth c H1 locs1 cells slots Q (F0 m (pc + 3) ls rest)) : W p l e R s m args below meth c H locs cells slots Q (F0 m pc ls (.int n :: .int dp :: .ref a :: .int sp :: .ref a0 :: rest)) := by
  subst hsp; subst hdp; subst hn
  have c1 : (nI sn).toNatClampNeg = sn := nI_clamp (by omega)
  have c2 : (nI dn).toNatClampNeg = dn := nI_clamp (by omega)
  have c3 : (nI nn).toNatClampNeg = nn := nI_clamp (by omega)
  refine va_copyi hexec hb hml hown hlink hnat hstat hini hK hP hD hS q0 q1 t0 t1 ha0 ha1 ht0 ht1 rfl (nI_pos (by omega)) (nI_pos (by omega)) (nI_pos (by omega)) (by rw [c1, c3]; exact h4) (by rw [c2, c3]; exact h5) (fun i _ => hfit _) hframes hlocals hdg ?_
  rw [c1, c2, c3]
  exact kk
end TKP
theorem tk_same {D : va_G} {cl : List vw_C} {H : Heap} {b N : Nat} {cA : ClassId} {f g : Nat → Int32} (hP : va_P D cl [(b, .inl (cA, N, .inl f))] H) (h : ∀ j, j < N → f j = g j) : va_P D cl [(b, .inl (cA, N, .inl g))] H := by
  intro j q hj
  have hz : j < 1 := (List.getElem?_eq_some_iff.mp hj).1
  rw [show j = 0 by omega] at hj
  cases hj
  have h0 : H[b]? = some (vp_cell cA (N, .inl f)) := hP 0 _ rfl
  show H[b]? = some (vp_cell cA (N, .inl g))
  rw [h0, tk_cellc h]
theorem tk_sameD {A : Nat → Prop} {b : Nat} {x y : va_E} (hD : va_D A [(b, x)]) : va_D A [(b, y)] := by
  refine ⟨fun i j p q hi hj _ => ?_, fun k q hk => ?_⟩
  · have h1 : i < 1 := (List.getElem?_eq_some_iff.mp hi).1
    have h2 : j < 1 := (List.getElem?_eq_some_iff.mp hj).1
    omega
  · have h1 : k < 1 := (List.getElem?_eq_some_iff.mp hk).1
    rw [show k = 0 by omega] at hk
    cases hk
    exact hD.2 0 (b, x) rfl
end
section
/-- two bytes, the higher first -/
def tb2 (f : Nat → Int32) (n : Nat) : Int32 := (((f n) &&& 255) <<< ((8 : Int32) &&& 31)) ||| ((f (n + 1)) &&& 255)
/-- the place in a page -/
def plB (f : Nat → Int32) : Int32 := (tb2 f 2 <<< ((16 : Int32) &&& 31)) ||| tb2 f 4

set_option maxHeartbeats 4000000 in
set_option maxRecDepth 100000 in
/-- r = if x < 0 then 0 else if 192 ≤ x then 0 else 1 -/
theorem c_B_isPage (l : Launch) (dC : Nat → ClassId) (dI : Nat → Nat → Nat) (ka : Nat → ClassId) (x : Int32) : Met l yB_isPage wB_isPage ({ frames := 0, cells := 0, slots := 0, locals := 0 }) (va_Pc [.int x] (fun U => tk_E dC dI ka U ∧ va_P (dC, dI) clB [] U.heap)) (vp_Si (fun r => r = if x < 0 then 0 else if 192 ≤ x then 0 else 1)) 0 0 (fun _ => False) := by
  refine Met.ofW (cc := cB_isPage) (maxL := 1) (ret := (some .boolean)) (by decide) rfl ?_
  intro p e s m args below meth c s₁ B hml hv
  obtain ⟨rfl, hE, hP⟩ := hv
  have hx := B.exec
  have hb := B.bytes
  have hr := B.returns
  have hts := atoms_spec (ws := wB_isPage) B.pre
  have hq : ∀ w ∈ lwg, w.before _ s = true := fun w h => hts w (List.mem_cons_of_mem _ h)
  have hown : s.vm.findClass RB = some m.cls := findClass_of_methodNamed B.named
  have hlocks := B.notSynchronized
  have hK := hE.1
  have hN := hE.2
  have hP : va_P (dC, dI) clB [] s.heap := hP
  have hl := lv_entry ([.int x]) (n := 1) (Nat.le_of_ble_eq_true rfl)
  rw [lg_entry_eq]
  generalize (lg_sl ([.int x]) ++ List.replicate (1 - (lg_sl ([.int x])).length) Slot.unset).toArray = ls at hl ⊢
  have hl : lv_has ls 1 [(0, .int x)] := hl
  refine lv_iload_n hx hb dB_isPage_0 rfl (lv_at hl 0 rfl) ?_
  refine lv_if_lt (tgt := 15) hx hb dB_isPage_1 (by decide) (fun c_1 => ?_) (fun c_1 => ?_)
  · refine lv_iconst (v := 0) hx hb dB_isPage_15 (by decide) ?_
    exact W.zret (v := 0) (ty := .boolean) hx hb hr rfl (fun t ht hW => ⟨0, rfl, (by simp [c_1]), ht⟩) (fun _ h => by cases h) dB_isPage_16
  · refine lv_iload_n hx hb dB_isPage_4 rfl (lv_at hl 0 rfl) ?_
    refine lv_sipush (v := 192) hx hb dB_isPage_5 (by decide) ?_
    refine lv_icmp_ge (tgt := 15) hx hb dB_isPage_8 (by decide) (fun c_2 => ?_) (fun c_2 => ?_)
    · refine lv_iconst (v := 0) hx hb dB_isPage_15 (by decide) ?_
      exact W.zret (v := 0) (ty := .boolean) hx hb hr rfl (fun t ht hW => ⟨0, rfl, (by simp [c_1, c_2]), ht⟩) (fun _ h => by cases h) dB_isPage_16
    · refine lv_iconst (v := 1) hx hb dB_isPage_11 (by decide) ?_
      refine lv_goto (tgt := 16) hx hb dB_isPage_12 (by decide) ?_
      exact W.zret (v := 1) (ty := .boolean) hx hb hr rfl (fun t ht hW => ⟨1, rfl, (by simp [c_1, c_2]), ht⟩) (fun _ h => by cases h) dB_isPage_16

set_option maxHeartbeats 4000000 in
set_option maxRecDepth 100000 in
/-- r = if x < 0 then 0 else if 12 ≤ x then 0 else 1 -/
theorem c_B_isFrame (l : Launch) (dC : Nat → ClassId) (dI : Nat → Nat → Nat) (ka : Nat → ClassId) (x : Int32) : Met l yB_isFrame wB_isFrame ({ frames := 0, cells := 0, slots := 0, locals := 0 }) (va_Pc [.int x] (fun U => tk_E dC dI ka U ∧ va_P (dC, dI) clB [] U.heap)) (vp_Si (fun r => r = if x < 0 then 0 else if 12 ≤ x then 0 else 1)) 0 0 (fun _ => False) := by
  refine Met.ofW (cc := cB_isFrame) (maxL := 1) (ret := (some .boolean)) (by decide) rfl ?_
  intro p e s m args below meth c s₁ B hml hv
  obtain ⟨rfl, hE, hP⟩ := hv
  have hx := B.exec
  have hb := B.bytes
  have hr := B.returns
  have hts := atoms_spec (ws := wB_isFrame) B.pre
  have hq : ∀ w ∈ lwg, w.before _ s = true := fun w h => hts w (List.mem_cons_of_mem _ h)
  have hown : s.vm.findClass RB = some m.cls := findClass_of_methodNamed B.named
  have hlocks := B.notSynchronized
  have hK := hE.1
  have hN := hE.2
  have hP : va_P (dC, dI) clB [] s.heap := hP
  have hl := lv_entry ([.int x]) (n := 1) (Nat.le_of_ble_eq_true rfl)
  rw [lg_entry_eq]
  generalize (lg_sl ([.int x]) ++ List.replicate (1 - (lg_sl ([.int x])).length) Slot.unset).toArray = ls at hl ⊢
  have hl : lv_has ls 1 [(0, .int x)] := hl
  refine lv_iload_n hx hb dB_isFrame_0 rfl (lv_at hl 0 rfl) ?_
  refine lv_if_lt (tgt := 14) hx hb dB_isFrame_1 (by decide) (fun c_1 => ?_) (fun c_1 => ?_)
  · refine lv_iconst (v := 0) hx hb dB_isFrame_14 (by decide) ?_
    exact W.zret (v := 0) (ty := .boolean) hx hb hr rfl (fun t ht hW => ⟨0, rfl, (by simp [c_1]), ht⟩) (fun _ h => by cases h) dB_isFrame_15
  · refine lv_iload_n hx hb dB_isFrame_4 rfl (lv_at hl 0 rfl) ?_
    refine lv_bipush (v := 12) hx hb dB_isFrame_5 (by decide) ?_
    refine lv_icmp_ge (tgt := 14) hx hb dB_isFrame_7 (by decide) (fun c_2 => ?_) (fun c_2 => ?_)
    · refine lv_iconst (v := 0) hx hb dB_isFrame_14 (by decide) ?_
      exact W.zret (v := 0) (ty := .boolean) hx hb hr rfl (fun t ht hW => ⟨0, rfl, (by simp [c_1, c_2]), ht⟩) (fun _ h => by cases h) dB_isFrame_15
    · refine lv_iconst (v := 1) hx hb dB_isFrame_10 (by decide) ?_
      refine lv_goto (tgt := 15) hx hb dB_isFrame_11 (by decide) ?_
      exact W.zret (v := 1) (ty := .boolean) hx hb hr rfl (fun t ht hW => ⟨1, rfl, (by simp [c_1, c_2]), ht⟩) (fun _ h => by cases h) dB_isFrame_15

set_option maxHeartbeats 4000000 in
set_option maxRecDepth 100000 in
/-- r = if x < 0 then 0 else if 512 ≤ x then 0 else 1 -/
theorem c_B_isByte (l : Launch) (dC : Nat → ClassId) (dI : Nat → Nat → Nat) (ka : Nat → ClassId) (x : Int32) : Met l yB_isByte wB_isByte ({ frames := 0, cells := 0, slots := 0, locals := 0 }) (va_Pc [.int x] (fun U => tk_E dC dI ka U ∧ va_P (dC, dI) clB [] U.heap)) (vp_Si (fun r => r = if x < 0 then 0 else if 512 ≤ x then 0 else 1)) 0 0 (fun _ => False) := by
  refine Met.ofW (cc := cB_isByte) (maxL := 1) (ret := (some .boolean)) (by decide) rfl ?_
  intro p e s m args below meth c s₁ B hml hv
  obtain ⟨rfl, hE, hP⟩ := hv
  have hx := B.exec
  have hb := B.bytes
  have hr := B.returns
  have hts := atoms_spec (ws := wB_isByte) B.pre
  have hq : ∀ w ∈ lwg, w.before _ s = true := fun w h => hts w (List.mem_cons_of_mem _ h)
  have hown : s.vm.findClass RB = some m.cls := findClass_of_methodNamed B.named
  have hlocks := B.notSynchronized
  have hK := hE.1
  have hN := hE.2
  have hP : va_P (dC, dI) clB [] s.heap := hP
  have hl := lv_entry ([.int x]) (n := 1) (Nat.le_of_ble_eq_true rfl)
  rw [lg_entry_eq]
  generalize (lg_sl ([.int x]) ++ List.replicate (1 - (lg_sl ([.int x])).length) Slot.unset).toArray = ls at hl ⊢
  have hl : lv_has ls 1 [(0, .int x)] := hl
  refine lv_iload_n hx hb dB_isByte_0 rfl (lv_at hl 0 rfl) ?_
  refine lv_if_lt (tgt := 15) hx hb dB_isByte_1 (by decide) (fun c_1 => ?_) (fun c_1 => ?_)
  · refine lv_iconst (v := 0) hx hb dB_isByte_15 (by decide) ?_
    exact W.zret (v := 0) (ty := .boolean) hx hb hr rfl (fun t ht hW => ⟨0, rfl, (by simp [c_1]), ht⟩) (fun _ h => by cases h) dB_isByte_16
  · refine lv_iload_n hx hb dB_isByte_4 rfl (lv_at hl 0 rfl) ?_
    refine lv_sipush (v := 512) hx hb dB_isByte_5 (by decide) ?_
    refine lv_icmp_ge (tgt := 15) hx hb dB_isByte_8 (by decide) (fun c_2 => ?_) (fun c_2 => ?_)
    · refine lv_iconst (v := 0) hx hb dB_isByte_15 (by decide) ?_
      exact W.zret (v := 0) (ty := .boolean) hx hb hr rfl (fun t ht hW => ⟨0, rfl, (by simp [c_1, c_2]), ht⟩) (fun _ h => by cases h) dB_isByte_16
    · refine lv_iconst (v := 1) hx hb dB_isByte_11 (by decide) ?_
      refine lv_goto (tgt := 16) hx hb dB_isByte_12 (by decide) ?_
      exact W.zret (v := 1) (ty := .boolean) hx hb hr rfl (fun t ht hW => ⟨1, rfl, (by simp [c_1, c_2]), ht⟩) (fun _ h => by cases h) dB_isByte_16

set_option maxHeartbeats 4000000 in
set_option maxRecDepth 100000 in
theorem c_B_frameBehind (l : Launch) (dC : Nat → ClassId) (dI : Nat → Nat → Nat) (ka : Nat → ClassId) (x : Int32) : Met l yB_frameBehind wB_frameBehind ({ frames := 0, cells := 0, slots := 0, locals := 0 }) (va_Pc [.int x] (fun U => tk_E dC dI ka U ∧ va_P (dC, dI) clB [] U.heap)) (vp_Si (fun r => r = if 12 ≤ x + 1 then 0 else x + 1)) 0 0 (fun _ => False) := by
  refine Met.ofW (cc := cB_frameBehind) (maxL := 1) (ret := (some .int)) (by decide) rfl ?_
  intro p e s m args below meth c s₁ B hml hv
  obtain ⟨rfl, hE, hP⟩ := hv
  have hx := B.exec
  have hb := B.bytes
  have hr := B.returns
  have hts := atoms_spec (ws := wB_frameBehind) B.pre
  have hq : ∀ w ∈ lwg, w.before _ s = true := fun w h => hts w (List.mem_cons_of_mem _ h)
  have hown : s.vm.findClass RB = some m.cls := findClass_of_methodNamed B.named
  have hlocks := B.notSynchronized
  have hK := hE.1
  have hN := hE.2
  have hP : va_P (dC, dI) clB [] s.heap := hP
  have hl := lv_entry ([.int x]) (n := 1) (Nat.le_of_ble_eq_true rfl)
  rw [lg_entry_eq]
  generalize (lg_sl ([.int x]) ++ List.replicate (1 - (lg_sl ([.int x])).length) Slot.unset).toArray = ls at hl ⊢
  have hl : lv_has ls 1 [(0, .int x)] := hl
  refine lv_iload_n hx hb dB_frameBehind_0 rfl (lv_at hl 0 rfl) ?_
  refine lv_iconst (v := 1) hx hb dB_frameBehind_1 (by decide) ?_
  refine lv_iadd hx hb dB_frameBehind_2 ?_
  refine lv_bipush (v := 12) hx hb dB_frameBehind_3 (by decide) ?_
  refine lv_icmp_ge (tgt := 14) hx hb dB_frameBehind_5 (by decide) (fun c_1 => ?_) (fun c_1 => ?_)
  · refine lv_iconst (v := 0) hx hb dB_frameBehind_14 (by decide) ?_
    exact W.iret (v := 0) hx hb hr (fun t ht hW => ⟨0, rfl, (by simp [c_1]), ht⟩) (fun _ h => by cases h) dB_frameBehind_15
  · refine lv_iload_n hx hb dB_frameBehind_8 rfl (lv_at hl 0 rfl) ?_
    refine lv_iconst (v := 1) hx hb dB_frameBehind_9 (by decide) ?_
    refine lv_iadd hx hb dB_frameBehind_10 ?_
    refine lv_goto (tgt := 15) hx hb dB_frameBehind_11 (by decide) ?_
    exact W.iret (v := (x + 1)) hx hb hr (fun t ht hW => ⟨(x + 1), rfl, (by simp [c_1]), ht⟩) (fun _ h => by cases h) dB_frameBehind_15

set_option maxHeartbeats 4000000 in
set_option maxRecDepth 100000 in
theorem c_B_twoBytes (l : Launch) (dC : Nat → ClassId) (dI : Nat → Nat → Nat) (ka : Nat → ClassId) (b N : Nat) (f : Nat → Int32) (x : Int32) (n : Nat) (ex : x = nI n) (hn : n + 1 < N) (hM : N < 2 ^ 31) : Met l yB_twoBytes wB_twoBytes ({ frames := 0, cells := 0, slots := 0, locals := 0 }) (va_Pc [.ref b, .int x] (fun U => tk_E dC dI ka U ∧ va_P (dC, dI) clB [(b, .inl (ka 0, N, .inl f))] U.heap)) (vp_Si (fun r => r = tb2 f n)) 0 0 (fun _ => False) := by
  refine Met.ofW (cc := cB_twoBytes) (maxL := 2) (ret := (some .int)) (by decide) rfl ?_
  intro p e s m args below meth c s₁ B hml hv
  obtain ⟨rfl, hE, hP⟩ := hv
  have hx := B.exec
  have hb := B.bytes
  have hr := B.returns
  have hts := atoms_spec (ws := wB_twoBytes) B.pre
  have hq : ∀ w ∈ lwg, w.before _ s = true := fun w h => hts w (List.mem_cons_of_mem _ h)
  have hown : s.vm.findClass RB = some m.cls := findClass_of_methodNamed B.named
  have hlocks := B.notSynchronized
  have hK := hE.1
  have hN := hE.2
  have hP : va_P (dC, dI) clB [(b, .inl (ka 0, N, .inl f))] s.heap := hP
  have hl := lv_entry ([.ref b, .int x]) (n := 2) (Nat.le_of_ble_eq_true rfl)
  rw [lg_entry_eq]
  generalize (lg_sl ([.ref b, .int x]) ++ List.replicate (2 - (lg_sl ([.ref b, .int x])).length) Slot.unset).toArray = ls at hl ⊢
  have hl : lv_has ls 2 [(0, .ref b), (1, .int x)] := hl
  refine lv_aload_n hx hb dB_twoBytes_0 rfl (lv_at hl 0 rfl) ?_
  refine lv_iload_n hx hb dB_twoBytes_1 rfl (lv_at hl 1 rfl) ?_
  refine tk_bald (n := n) hx hb hK hP 0 0 rfl rfl ex (by omega) (by omega) dB_twoBytes_2 ?_
  refine lv_sipush (v := 255) hx hb dB_twoBytes_3 (by decide) ?_
  refine lv_iand hx hb dB_twoBytes_6 ?_
  refine lv_bipush (v := 8) hx hb dB_twoBytes_7 (by decide) ?_
  refine lv_ishl hx hb dB_twoBytes_9 ?_
  refine lv_aload_n hx hb dB_twoBytes_10 rfl (lv_at hl 0 rfl) ?_
  refine lv_iload_n hx hb dB_twoBytes_11 rfl (lv_at hl 1 rfl) ?_
  refine lv_iconst (v := 1) hx hb dB_twoBytes_12 (by decide) ?_
  refine lv_iadd hx hb dB_twoBytes_13 ?_
  refine tk_bald (n := n + 1) hx hb hK hP 0 0 rfl rfl (by rw [ex]; exact nI_1 n) hn (by omega) dB_twoBytes_14 ?_
  refine lv_sipush (v := 255) hx hb dB_twoBytes_15 (by decide) ?_
  refine lv_iand hx hb dB_twoBytes_18 ?_
  refine lv_ior hx hb dB_twoBytes_19 ?_
  exact W.iret (v := ((((f n) &&& 255) <<< ((8 : Int32) &&& 31)) ||| ((f (n + 1)) &&& 255))) hx hb hr (fun t ht hW => ⟨((((f n) &&& 255) <<< ((8 : Int32) &&& 31)) ||| ((f (n + 1)) &&& 255)), rfl, rfl, ht⟩) (fun _ h => by cases h) dB_twoBytes_20

set_option maxHeartbeats 4000000 in
set_option maxRecDepth 100000 in
theorem c_F_isEmpty (l : Launch) (dC : Nat → ClassId) (dI : Nat → Nat → Nat) (ka : Nat → ClassId) (a b : Nat) (pg pn us di : Int32) : Met l yF_isEmpty wF_isEmpty ({ frames := 0, cells := 0, slots := 0, locals := 0 }) (va_Pc [.ref a] (fun U => tk_E dC dI ka U ∧ va_P (dC, dI) clB [(a, .inr (1, [.ref b, .int pg, .int pn, .int us, .int di]))] U.heap)) (vp_Si (fun r => r = if pg = -1 then 1 else 0)) 0 0 (fun _ => False) := by
  refine Met.ofW (cc := cF_isEmpty) (maxL := 1) (ret := (some .boolean)) (by decide) rfl ?_
  intro p e s m args below meth c s₁ B hml hv
  obtain ⟨rfl, hE, hP⟩ := hv
  have hx := B.exec
  have hb := B.bytes
  have hr := B.returns
  have hts := atoms_spec (ws := wF_isEmpty) B.pre
  have hq : ∀ w ∈ lwg, w.before _ s = true := fun w h => hts w (List.mem_cons_of_mem _ h)
  have hown : s.vm.findClass RF = some m.cls := findClass_of_methodNamed B.named
  have hlocks := B.notSynchronized
  have hK := hE.1
  have hN := hE.2
  have hP : va_P (dC, dI) clB [(a, .inr (1, [.ref b, .int pg, .int pn, .int us, .int di]))] s.heap := hP
  have hl := lv_entry ([.ref a]) (n := 1) (Nat.le_of_ble_eq_true rfl)
  rw [lg_entry_eq]
  generalize (lg_sl ([.ref a]) ++ List.replicate (1 - (lg_sl ([.ref a])).length) Slot.unset).toArray = ls at hl ⊢
  have hl : lv_has ls 1 [(0, .ref a)] := hl
  refine lv_aload_n hx hb dF_isEmpty_0 rfl (lv_at hl 0 rfl) ?_
  refine va_get (D := (dC, dI)) (ci := 1) (v := .int pg) (C := RF) (T := TF) (N := 5) hx hb hts (inC inF) hown hK hP 0 rfl rfl 1 (by decide) (hq _ wi_95) (fun _ h9 => h9) rfl dF_isEmpty_1 ?_
  refine lv_iconst (v := (-1)) hx hb dF_isEmpty_4 (by decide) ?_
  refine lv_icmp_ne (tgt := 12) hx hb dF_isEmpty_5 (by decide) (fun c_1 => ?_) (fun c_1 => ?_)
  · refine lv_iconst (v := 0) hx hb dF_isEmpty_12 (by decide) ?_
    exact W.zret (v := 0) (ty := .boolean) hx hb hr rfl (fun t ht hW => ⟨0, rfl, (by simp [c_1]), ht⟩) (fun _ h => by cases h) dF_isEmpty_13
  · refine lv_iconst (v := 1) hx hb dF_isEmpty_8 (by decide) ?_
    refine lv_goto (tgt := 13) hx hb dF_isEmpty_9 (by decide) ?_
    exact W.zret (v := 1) (ty := .boolean) hx hb hr rfl (fun t ht hW => ⟨1, rfl, (by simp [c_1]), ht⟩) (fun _ h => by cases h) dF_isEmpty_13

set_option maxHeartbeats 4000000 in
set_option maxRecDepth 100000 in
theorem c_F_hasPins (l : Launch) (dC : Nat → ClassId) (dI : Nat → Nat → Nat) (ka : Nat → ClassId) (a b : Nat) (pg pn us di : Int32) : Met l yF_hasPins wF_hasPins ({ frames := 0, cells := 0, slots := 0, locals := 0 }) (va_Pc [.ref a] (fun U => tk_E dC dI ka U ∧ va_P (dC, dI) clB [(a, .inr (1, [.ref b, .int pg, .int pn, .int us, .int di]))] U.heap)) (vp_Si (fun r => r = if pn ≤ 0 then 0 else 1)) 0 0 (fun _ => False) := by
  refine Met.ofW (cc := cF_hasPins) (maxL := 1) (ret := (some .boolean)) (by decide) rfl ?_
  intro p e s m args below meth c s₁ B hml hv
  obtain ⟨rfl, hE, hP⟩ := hv
  have hx := B.exec
  have hb := B.bytes
  have hr := B.returns
  have hts := atoms_spec (ws := wF_hasPins) B.pre
  have hq : ∀ w ∈ lwg, w.before _ s = true := fun w h => hts w (List.mem_cons_of_mem _ h)
  have hown : s.vm.findClass RF = some m.cls := findClass_of_methodNamed B.named
  have hlocks := B.notSynchronized
  have hK := hE.1
  have hN := hE.2
  have hP : va_P (dC, dI) clB [(a, .inr (1, [.ref b, .int pg, .int pn, .int us, .int di]))] s.heap := hP
  have hl := lv_entry ([.ref a]) (n := 1) (Nat.le_of_ble_eq_true rfl)
  rw [lg_entry_eq]
  generalize (lg_sl ([.ref a]) ++ List.replicate (1 - (lg_sl ([.ref a])).length) Slot.unset).toArray = ls at hl ⊢
  have hl : lv_has ls 1 [(0, .ref a)] := hl
  refine lv_aload_n hx hb dF_hasPins_0 rfl (lv_at hl 0 rfl) ?_
  refine va_get (D := (dC, dI)) (ci := 1) (v := .int pn) (C := RF) (T := TF) (N := 5) hx hb hts (inC inF) hown hK hP 0 rfl rfl 2 (by decide) (hq _ wi_97) (fun _ h9 => h9) rfl dF_hasPins_1 ?_
  refine lv_if_le (tgt := 11) hx hb dF_hasPins_4 (by decide) (fun c_1 => ?_) (fun c_1 => ?_)
  · refine lv_iconst (v := 0) hx hb dF_hasPins_11 (by decide) ?_
    exact W.zret (v := 0) (ty := .boolean) hx hb hr rfl (fun t ht hW => ⟨0, rfl, (by simp [c_1]), ht⟩) (fun _ h => by cases h) dF_hasPins_12
  · refine lv_iconst (v := 1) hx hb dF_hasPins_7 (by decide) ?_
    refine lv_goto (tgt := 12) hx hb dF_hasPins_8 (by decide) ?_
    exact W.zret (v := 1) (ty := .boolean) hx hb hr rfl (fun t ht hW => ⟨1, rfl, (by simp [c_1]), ht⟩) (fun _ h => by cases h) dF_hasPins_12

set_option maxHeartbeats 4000000 in
set_option maxRecDepth 100000 in
theorem c_F_canBeTaken (l : Launch) (dC : Nat → ClassId) (dI : Nat → Nat → Nat) (ka : Nat → ClassId) (a b : Nat) (pg pn us di : Int32) : Met l yF_canBeTaken wF_canBeTaken ({ frames := 0, cells := 0, slots := 0, locals := 0 }) (va_Pc [.ref a] (fun U => tk_E dC dI ka U ∧ va_P (dC, dI) clB [(a, .inr (1, [.ref b, .int pg, .int pn, .int us, .int di]))] U.heap)) (vp_Si (fun r => r = if pn = 0 then (if us = 0 then 1 else 0) else 0)) 0 0 (fun _ => False) := by
  refine Met.ofW (cc := cF_canBeTaken) (maxL := 1) (ret := (some .boolean)) (by decide) rfl ?_
  intro p e s m args below meth c s₁ B hml hv
  obtain ⟨rfl, hE, hP⟩ := hv
  have hx := B.exec
  have hb := B.bytes
  have hr := B.returns
  have hts := atoms_spec (ws := wF_canBeTaken) B.pre
  have hq : ∀ w ∈ lwg, w.before _ s = true := fun w h => hts w (List.mem_cons_of_mem _ h)
  have hown : s.vm.findClass RF = some m.cls := findClass_of_methodNamed B.named
  have hlocks := B.notSynchronized
  have hK := hE.1
  have hN := hE.2
  have hP : va_P (dC, dI) clB [(a, .inr (1, [.ref b, .int pg, .int pn, .int us, .int di]))] s.heap := hP
  have hl := lv_entry ([.ref a]) (n := 1) (Nat.le_of_ble_eq_true rfl)
  rw [lg_entry_eq]
  generalize (lg_sl ([.ref a]) ++ List.replicate (1 - (lg_sl ([.ref a])).length) Slot.unset).toArray = ls at hl ⊢
  have hl : lv_has ls 1 [(0, .ref a)] := hl
  refine lv_aload_n hx hb dF_canBeTaken_0 rfl (lv_at hl 0 rfl) ?_
  refine va_get (D := (dC, dI)) (ci := 1) (v := .int pn) (C := RF) (T := TF) (N := 5) hx hb hts (inC inF) hown hK hP 0 rfl rfl 2 (by decide) (hq _ wi_97) (fun _ h9 => h9) rfl dF_canBeTaken_1 ?_
  refine lv_if_ne (tgt := 18) hx hb dF_canBeTaken_4 (by decide) (fun c_1 => ?_) (fun c_1 => ?_)
  · refine lv_iconst (v := 0) hx hb dF_canBeTaken_18 (by decide) ?_
    exact W.zret (v := 0) (ty := .boolean) hx hb hr rfl (fun t ht hW => ⟨0, rfl, (by simp [c_1]), ht⟩) (fun _ h => by cases h) dF_canBeTaken_19
  · refine lv_aload_n hx hb dF_canBeTaken_7 rfl (lv_at hl 0 rfl) ?_
    refine va_get (D := (dC, dI)) (ci := 1) (v := .int us) (C := RF) (T := TF) (N := 5) hx hb hts (inC inF) hown hK hP 0 rfl rfl 3 (by decide) (hq _ wi_99) (fun _ h9 => h9) rfl dF_canBeTaken_8 ?_
    refine lv_if_ne (tgt := 18) hx hb dF_canBeTaken_11 (by decide) (fun c_2 => ?_) (fun c_2 => ?_)
    · refine lv_iconst (v := 0) hx hb dF_canBeTaken_18 (by decide) ?_
      exact W.zret (v := 0) (ty := .boolean) hx hb hr rfl (fun t ht hW => ⟨0, rfl, (by simp [c_1, c_2]), ht⟩) (fun _ h => by cases h) dF_canBeTaken_19
    · refine lv_iconst (v := 1) hx hb dF_canBeTaken_14 (by decide) ?_
      refine lv_goto (tgt := 19) hx hb dF_canBeTaken_15 (by decide) ?_
      exact W.zret (v := 1) (ty := .boolean) hx hb hr rfl (fun t ht hW => ⟨1, rfl, (by simp [c_1, c_2]), ht⟩) (fun _ h => by cases h) dF_canBeTaken_19

set_option maxHeartbeats 4000000 in
set_option maxRecDepth 100000 in
theorem c_F_addPin (l : Launch) (dC : Nat → ClassId) (dI : Nat → Nat → Nat) (ka : Nat → ClassId) (sz : Nat) (a b : Nat) (pg pn us di : Int32) : Met l yF_addPin wF_addPin ({ frames := 1, cells := 0, slots := 0, locals := 14 }) (va_Pc [.ref a] (fun U => U.heap.size = sz ∧ tk_E dC dI ka U ∧ va_P (dC, dI) clB [(a, .inr (1, [.ref b, .int pg, .int pn, .int us, .int di]))] U.heap ∧ va_D (fun _ => True) [(a, .inr (1, [.ref b, .int pg, .int pn, .int us, .int di]))])) (va_Qv (fun _ : Unit => True) (fun _ t => va_P (dC, dI) clB [(a, .inr (1, [.ref b, .int pg, .int (pn + 1), .int (if 3 < us + 1 then 3 else us + 1), .int di]))] t.heap) (va_A [(a, .inr (1, [.ref b, .int pg, .int pn, .int us, .int di]))] sz)) 0 0 (va_A [(a, .inr (1, [.ref b, .int pg, .int pn, .int us, .int di]))] sz) := by
  refine Met.ofW (cc := cF_addPin) (maxL := 1) (ret := none) (by decide) rfl ?_
  intro p e s m args below meth c s₁ B hml hv
  obtain ⟨rfl, hsz, hE, hP, hD0⟩ := hv
  have hx := B.exec
  have hb := B.bytes
  have hr := B.returns
  have hts := atoms_spec (ws := wF_addPin) B.pre
  have hq : ∀ w ∈ lwg, w.before _ s = true := fun w h => hts w (List.mem_cons_of_mem _ h)
  have hown : s.vm.findClass RF = some m.cls := findClass_of_methodNamed B.named
  have hlocks := B.notSynchronized
  have hK := hE.1
  have hN := hE.2
  subst hsz
  have hD := hD0.self (sz := s.heap.size)
  generalize hAe : va_A [(a, .inr (1, [.ref b, .int pg, .int pn, .int us, .int di]))] s.heap.size = A at hD ⊢
  have hA : ∀ q : Nat, s.heap.size ≤ q → A q := fun q h => by rw [← hAe]; exact Or.inr h
  have hS : va_S A s.heap s.heap [] := va_S.rf
  have hP : va_P (dC, dI) clB [(a, .inr (1, [.ref b, .int pg, .int pn, .int us, .int di]))] s.heap := hP
  have hl := lv_entry ([.ref a]) (n := 1) (Nat.le_of_ble_eq_true rfl)
  rw [lg_entry_eq]
  generalize (lg_sl ([.ref a]) ++ List.replicate (1 - (lg_sl ([.ref a])).length) Slot.unset).toArray = ls at hl ⊢
  have hl : lv_has ls 1 [(0, .ref a)] := hl
  refine lv_aload_n hx hb dF_addPin_0 rfl (lv_at hl 0 rfl) ?_
  refine lv_dup hx hb dF_addPin_1 rfl ?_
  refine va_get (D := (dC, dI)) (ci := 1) (v := .int pn) (C := RF) (T := TF) (N := 5) hx hb hts (inC inF) hown hK hP 0 rfl rfl 2 (by decide) (hq _ wi_97) (fun _ h9 => h9) rfl dF_addPin_2 ?_
  refine lv_iconst (v := 1) hx hb dF_addPin_5 (by decide) ?_
  refine lv_iadd hx hb dF_addPin_6 ?_
  refine va_put (D := (dC, dI)) (ci := 1) (v := .int (pn + 1)) (ty := .int) (C := RF) (T := TF) (N := 5) hx hb hts (inC inF) tyF tyF_ok nmF hown hK hP hD hS 0 rfl rfl 2 (by decide) (hq _ wi_97) (fun _ h9 => h9) rfl (by decide +kernel) rfl rfl (Nat.le_of_ble_eq_true rfl) dF_addPin_7 (fun H locs hP hD hS => ?_)
  have hP : va_P (dC, dI) clB [(a, .inr (1, [.ref b, .int pg, .int (pn + 1), .int us, .int di]))] H := hP
  have hD : va_D A [(a, .inr (1, [.ref b, .int pg, .int (pn + 1), .int us, .int di]))] := hD
  refine lv_aload_n hx hb dF_addPin_10 rfl (lv_at hl 0 rfl) ?_
  refine lv_aload_n hx hb dF_addPin_11 rfl (lv_at hl 0 rfl) ?_
  refine va_get (D := (dC, dI)) (ci := 1) (v := .int us) (C := RF) (T := TF) (N := 5) hx hb hts (inC inF) hown hK hP 0 rfl rfl 3 (by decide) (hq _ wi_99) (fun _ h9 => h9) rfl dF_addPin_12 ?_
  refine lv_iconst (v := 1) hx hb dF_addPin_15 (by decide) ?_
  refine lv_iadd hx hb dF_addPin_16 ?_
  refine lv_iconst (v := 3) hx hb dF_addPin_17 (by decide) ?_
  refine va_mmin hx hb (hml.trans hl.1.symm) hown (hq _ wi_299) (hq _ wi_300) (hq _ wi_33) (hq _ wi_301) (Nat.le_of_ble_eq_true rfl) (Nat.le_of_ble_eq_true rfl) (Nat.zero_le _) (Nat.zero_le _) dF_addPin_18 ?_
  refine va_put (D := (dC, dI)) (ci := 1) (v := .int (if 3 < (us + 1) then 3 else (us + 1))) (ty := .int) (C := RF) (T := TF) (N := 5) hx hb hts (inC inF) tyF tyF_ok nmF hown hK hP hD hS 0 rfl rfl 3 (by decide) (hq _ wi_99) (fun _ h9 => h9) rfl (by decide +kernel) rfl rfl (Nat.le_of_ble_eq_true rfl) dF_addPin_21 (fun H locs hP hD hS => ?_)
  have hP : va_P (dC, dI) clB [(a, .inr (1, [.ref b, .int pg, .int (pn + 1), .int (if 3 < (us + 1) then 3 else (us + 1)), .int di]))] H := hP
  have hD : va_D A [(a, .inr (1, [.ref b, .int pg, .int (pn + 1), .int (if 3 < (us + 1) then 3 else (us + 1)), .int di]))] := hD
  exact W.vret hx hb hr (fun t ht hW => ⟨⟨(), rfl, trivial, by show va_P _ _ _ t.heap; rw [ht]; exact hP⟩, hS.F ht⟩) hS.2.2 dF_addPin_24

set_option maxHeartbeats 4000000 in
set_option maxRecDepth 100000 in
theorem c_F_dropPin (l : Launch) (dC : Nat → ClassId) (dI : Nat → Nat → Nat) (ka : Nat → ClassId) (sz : Nat) (a b : Nat) (pg pn us di : Int32) : Met l yF_dropPin wF_dropPin ({ frames := 0, cells := 0, slots := 0, locals := 0 }) (va_Pc [.ref a] (fun U => U.heap.size = sz ∧ tk_E dC dI ka U ∧ va_P (dC, dI) clB [(a, .inr (1, [.ref b, .int pg, .int pn, .int us, .int di]))] U.heap ∧ va_D (fun _ => True) [(a, .inr (1, [.ref b, .int pg, .int pn, .int us, .int di]))])) (va_Qv (fun _ : Unit => True) (fun _ t => va_P (dC, dI) clB [(a, .inr (1, [.ref b, .int pg, .int (pn - 1), .int us, .int di]))] t.heap) (va_A [(a, .inr (1, [.ref b, .int pg, .int pn, .int us, .int di]))] sz)) 0 0 (va_A [(a, .inr (1, [.ref b, .int pg, .int pn, .int us, .int di]))] sz) := by
  refine Met.ofW (cc := cF_dropPin) (maxL := 1) (ret := none) (by decide) rfl ?_
  intro p e s m args below meth c s₁ B hml hv
  obtain ⟨rfl, hsz, hE, hP, hD0⟩ := hv
  have hx := B.exec
  have hb := B.bytes
  have hr := B.returns
  have hts := atoms_spec (ws := wF_dropPin) B.pre
  have hq : ∀ w ∈ lwg, w.before _ s = true := fun w h => hts w (List.mem_cons_of_mem _ h)
  have hown : s.vm.findClass RF = some m.cls := findClass_of_methodNamed B.named
  have hlocks := B.notSynchronized
  have hK := hE.1
  have hN := hE.2
  subst hsz
  have hD := hD0.self (sz := s.heap.size)
  generalize hAe : va_A [(a, .inr (1, [.ref b, .int pg, .int pn, .int us, .int di]))] s.heap.size = A at hD ⊢
  have hA : ∀ q : Nat, s.heap.size ≤ q → A q := fun q h => by rw [← hAe]; exact Or.inr h
  have hS : va_S A s.heap s.heap [] := va_S.rf
  have hP : va_P (dC, dI) clB [(a, .inr (1, [.ref b, .int pg, .int pn, .int us, .int di]))] s.heap := hP
  have hl := lv_entry ([.ref a]) (n := 1) (Nat.le_of_ble_eq_true rfl)
  rw [lg_entry_eq]
  generalize (lg_sl ([.ref a]) ++ List.replicate (1 - (lg_sl ([.ref a])).length) Slot.unset).toArray = ls at hl ⊢
  have hl : lv_has ls 1 [(0, .ref a)] := hl
  refine lv_aload_n hx hb dF_dropPin_0 rfl (lv_at hl 0 rfl) ?_
  refine lv_dup hx hb dF_dropPin_1 rfl ?_
  refine va_get (D := (dC, dI)) (ci := 1) (v := .int pn) (C := RF) (T := TF) (N := 5) hx hb hts (inC inF) hown hK hP 0 rfl rfl 2 (by decide) (hq _ wi_97) (fun _ h9 => h9) rfl dF_dropPin_2 ?_
  refine lv_iconst (v := 1) hx hb dF_dropPin_5 (by decide) ?_
  refine lv_isub hx hb dF_dropPin_6 ?_
  refine va_put (D := (dC, dI)) (ci := 1) (v := .int (pn - 1)) (ty := .int) (C := RF) (T := TF) (N := 5) hx hb hts (inC inF) tyF tyF_ok nmF hown hK hP hD hS 0 rfl rfl 2 (by decide) (hq _ wi_97) (fun _ h9 => h9) rfl (by decide +kernel) rfl rfl (Nat.le_of_ble_eq_true rfl) dF_dropPin_7 (fun H locs hP hD hS => ?_)
  have hP : va_P (dC, dI) clB [(a, .inr (1, [.ref b, .int pg, .int (pn - 1), .int us, .int di]))] H := hP
  have hD : va_D A [(a, .inr (1, [.ref b, .int pg, .int (pn - 1), .int us, .int di]))] := hD
  exact W.vret hx hb hr (fun t ht hW => ⟨⟨(), rfl, trivial, by show va_P _ _ _ t.heap; rw [ht]; exact hP⟩, hS.F ht⟩) hS.2.2 dF_dropPin_10

set_option maxHeartbeats 4000000 in
set_option maxRecDepth 100000 in
theorem c_F_passBy (l : Launch) (dC : Nat → ClassId) (dI : Nat → Nat → Nat) (ka : Nat → ClassId) (sz : Nat) (a b : Nat) (pg pn us di : Int32) : Met l yF_passBy wF_passBy ({ frames := 0, cells := 0, slots := 0, locals := 0 }) (va_Pc [.ref a] (fun U => U.heap.size = sz ∧ tk_E dC dI ka U ∧ va_P (dC, dI) clB [(a, .inr (1, [.ref b, .int pg, .int pn, .int us, .int di]))] U.heap ∧ va_D (fun _ => True) [(a, .inr (1, [.ref b, .int pg, .int pn, .int us, .int di]))])) (va_Qv (fun _ : Unit => True) (fun _ t => va_P (dC, dI) clB [(a, .inr (1, [.ref b, .int pg, .int pn, .int (if pn = 0 then (if us ≤ 0 then us else us - 1) else us), .int di]))] t.heap) (va_A [(a, .inr (1, [.ref b, .int pg, .int pn, .int us, .int di]))] sz)) 0 0 (va_A [(a, .inr (1, [.ref b, .int pg, .int pn, .int us, .int di]))] sz) := by
  refine Met.ofW (cc := cF_passBy) (maxL := 1) (ret := none) (by decide) rfl ?_
  intro p e s m args below meth c s₁ B hml hv
  obtain ⟨rfl, hsz, hE, hP, hD0⟩ := hv
  have hx := B.exec
  have hb := B.bytes
  have hr := B.returns
  have hts := atoms_spec (ws := wF_passBy) B.pre
  have hq : ∀ w ∈ lwg, w.before _ s = true := fun w h => hts w (List.mem_cons_of_mem _ h)
  have hown : s.vm.findClass RF = some m.cls := findClass_of_methodNamed B.named
  have hlocks := B.notSynchronized
  have hK := hE.1
  have hN := hE.2
  subst hsz
  have hD := hD0.self (sz := s.heap.size)
  generalize hAe : va_A [(a, .inr (1, [.ref b, .int pg, .int pn, .int us, .int di]))] s.heap.size = A at hD ⊢
  have hA : ∀ q : Nat, s.heap.size ≤ q → A q := fun q h => by rw [← hAe]; exact Or.inr h
  have hS : va_S A s.heap s.heap [] := va_S.rf
  have hP : va_P (dC, dI) clB [(a, .inr (1, [.ref b, .int pg, .int pn, .int us, .int di]))] s.heap := hP
  have hl := lv_entry ([.ref a]) (n := 1) (Nat.le_of_ble_eq_true rfl)
  rw [lg_entry_eq]
  generalize (lg_sl ([.ref a]) ++ List.replicate (1 - (lg_sl ([.ref a])).length) Slot.unset).toArray = ls at hl ⊢
  have hl : lv_has ls 1 [(0, .ref a)] := hl
  refine lv_aload_n hx hb dF_passBy_0 rfl (lv_at hl 0 rfl) ?_
  refine va_get (D := (dC, dI)) (ci := 1) (v := .int pn) (C := RF) (T := TF) (N := 5) hx hb hts (inC inF) hown hK hP 0 rfl rfl 2 (by decide) (hq _ wi_97) (fun _ h9 => h9) rfl dF_passBy_1 ?_
  refine lv_if_ne (tgt := 24) hx hb dF_passBy_4 (by decide) (fun c_1 => ?_) (fun c_1 => ?_)
  · exact W.vret hx hb hr (fun t ht hW => ⟨⟨(), rfl, trivial, by show va_P _ _ _ t.heap; rw [ht]; exact (by simpa [c_1] using hP)⟩, hS.F ht⟩) hS.2.2 dF_passBy_24
  · refine lv_aload_n hx hb dF_passBy_7 rfl (lv_at hl 0 rfl) ?_
    refine va_get (D := (dC, dI)) (ci := 1) (v := .int us) (C := RF) (T := TF) (N := 5) hx hb hts (inC inF) hown hK hP 0 rfl rfl 3 (by decide) (hq _ wi_99) (fun _ h9 => h9) rfl dF_passBy_8 ?_
    refine lv_if_le (tgt := 24) hx hb dF_passBy_11 (by decide) (fun c_2 => ?_) (fun c_2 => ?_)
    · exact W.vret hx hb hr (fun t ht hW => ⟨⟨(), rfl, trivial, by show va_P _ _ _ t.heap; rw [ht]; exact (by simpa [c_1, c_2] using hP)⟩, hS.F ht⟩) hS.2.2 dF_passBy_24
    · refine lv_aload_n hx hb dF_passBy_14 rfl (lv_at hl 0 rfl) ?_
      refine lv_dup hx hb dF_passBy_15 rfl ?_
      refine va_get (D := (dC, dI)) (ci := 1) (v := .int us) (C := RF) (T := TF) (N := 5) hx hb hts (inC inF) hown hK hP 0 rfl rfl 3 (by decide) (hq _ wi_99) (fun _ h9 => h9) rfl dF_passBy_16 ?_
      refine lv_iconst (v := 1) hx hb dF_passBy_19 (by decide) ?_
      refine lv_isub hx hb dF_passBy_20 ?_
      refine va_put (D := (dC, dI)) (ci := 1) (v := .int (us - 1)) (ty := .int) (C := RF) (T := TF) (N := 5) hx hb hts (inC inF) tyF tyF_ok nmF hown hK hP hD hS 0 rfl rfl 3 (by decide) (hq _ wi_99) (fun _ h9 => h9) rfl (by decide +kernel) rfl rfl (Nat.le_of_ble_eq_true rfl) dF_passBy_21 (fun H locs hP hD hS => ?_)
      have hP : va_P (dC, dI) clB [(a, .inr (1, [.ref b, .int pg, .int pn, .int (us - 1), .int di]))] H := hP
      have hD : va_D A [(a, .inr (1, [.ref b, .int pg, .int pn, .int (us - 1), .int di]))] := hD
      exact W.vret hx hb hr (fun t ht hW => ⟨⟨(), rfl, trivial, by show va_P _ _ _ t.heap; rw [ht]; exact (by simpa [c_1, c_2] using hP)⟩, hS.F ht⟩) hS.2.2 dF_passBy_24

set_option maxHeartbeats 4000000 in
set_option maxRecDepth 100000 in
theorem c_F_takePage (l : Launch) (dC : Nat → ClassId) (dI : Nat → Nat → Nat) (ka : Nat → ClassId) (sz : Nat) (a b : Nat) (pg pn us di : Int32) (x : Int32) : Met l yF_takePage wF_takePage ({ frames := 0, cells := 0, slots := 0, locals := 0 }) (va_Pc [.ref a, .int x] (fun U => U.heap.size = sz ∧ tk_E dC dI ka U ∧ va_P (dC, dI) clB [(a, .inr (1, [.ref b, .int pg, .int pn, .int us, .int di]))] U.heap ∧ va_D (fun _ => True) [(a, .inr (1, [.ref b, .int pg, .int pn, .int us, .int di]))])) (va_Qv (fun _ : Unit => True) (fun _ t => va_P (dC, dI) clB [(a, .inr (1, [.ref b, .int x, .int 1, .int 1, .int 0]))] t.heap) (va_A [(a, .inr (1, [.ref b, .int pg, .int pn, .int us, .int di]))] sz)) 0 0 (va_A [(a, .inr (1, [.ref b, .int pg, .int pn, .int us, .int di]))] sz) := by
  refine Met.ofW (cc := cF_takePage) (maxL := 2) (ret := none) (by decide) rfl ?_
  intro p e s m args below meth c s₁ B hml hv
  obtain ⟨rfl, hsz, hE, hP, hD0⟩ := hv
  have hx := B.exec
  have hb := B.bytes
  have hr := B.returns
  have hts := atoms_spec (ws := wF_takePage) B.pre
  have hq : ∀ w ∈ lwg, w.before _ s = true := fun w h => hts w (List.mem_cons_of_mem _ h)
  have hown : s.vm.findClass RF = some m.cls := findClass_of_methodNamed B.named
  have hlocks := B.notSynchronized
  have hK := hE.1
  have hN := hE.2
  subst hsz
  have hD := hD0.self (sz := s.heap.size)
  generalize hAe : va_A [(a, .inr (1, [.ref b, .int pg, .int pn, .int us, .int di]))] s.heap.size = A at hD ⊢
  have hA : ∀ q : Nat, s.heap.size ≤ q → A q := fun q h => by rw [← hAe]; exact Or.inr h
  have hS : va_S A s.heap s.heap [] := va_S.rf
  have hP : va_P (dC, dI) clB [(a, .inr (1, [.ref b, .int pg, .int pn, .int us, .int di]))] s.heap := hP
  have hl := lv_entry ([.ref a, .int x]) (n := 2) (Nat.le_of_ble_eq_true rfl)
  rw [lg_entry_eq]
  generalize (lg_sl ([.ref a, .int x]) ++ List.replicate (2 - (lg_sl ([.ref a, .int x])).length) Slot.unset).toArray = ls at hl ⊢
  have hl : lv_has ls 2 [(0, .ref a), (1, .int x)] := hl
  refine lv_aload_n hx hb dF_takePage_0 rfl (lv_at hl 0 rfl) ?_
  refine lv_iload_n hx hb dF_takePage_1 rfl (lv_at hl 1 rfl) ?_
  refine va_put (D := (dC, dI)) (ci := 1) (v := .int x) (ty := .int) (C := RF) (T := TF) (N := 5) hx hb hts (inC inF) tyF tyF_ok nmF hown hK hP hD hS 0 rfl rfl 1 (by decide) (hq _ wi_95) (fun _ h9 => h9) rfl (by decide +kernel) rfl rfl (Nat.le_of_ble_eq_true rfl) dF_takePage_2 (fun H locs hP hD hS => ?_)
  have hP : va_P (dC, dI) clB [(a, .inr (1, [.ref b, .int x, .int pn, .int us, .int di]))] H := hP
  have hD : va_D A [(a, .inr (1, [.ref b, .int x, .int pn, .int us, .int di]))] := hD
  refine lv_aload_n hx hb dF_takePage_5 rfl (lv_at hl 0 rfl) ?_
  refine lv_iconst (v := 1) hx hb dF_takePage_6 (by decide) ?_
  refine va_put (D := (dC, dI)) (ci := 1) (v := .int 1) (ty := .int) (C := RF) (T := TF) (N := 5) hx hb hts (inC inF) tyF tyF_ok nmF hown hK hP hD hS 0 rfl rfl 2 (by decide) (hq _ wi_97) (fun _ h9 => h9) rfl (by decide +kernel) rfl rfl (Nat.le_of_ble_eq_true rfl) dF_takePage_7 (fun H locs hP hD hS => ?_)
  have hP : va_P (dC, dI) clB [(a, .inr (1, [.ref b, .int x, .int 1, .int us, .int di]))] H := hP
  have hD : va_D A [(a, .inr (1, [.ref b, .int x, .int 1, .int us, .int di]))] := hD
  refine lv_aload_n hx hb dF_takePage_10 rfl (lv_at hl 0 rfl) ?_
  refine lv_iconst (v := 1) hx hb dF_takePage_11 (by decide) ?_
  refine va_put (D := (dC, dI)) (ci := 1) (v := .int 1) (ty := .int) (C := RF) (T := TF) (N := 5) hx hb hts (inC inF) tyF tyF_ok nmF hown hK hP hD hS 0 rfl rfl 3 (by decide) (hq _ wi_99) (fun _ h9 => h9) rfl (by decide +kernel) rfl rfl (Nat.le_of_ble_eq_true rfl) dF_takePage_12 (fun H locs hP hD hS => ?_)
  have hP : va_P (dC, dI) clB [(a, .inr (1, [.ref b, .int x, .int 1, .int 1, .int di]))] H := hP
  have hD : va_D A [(a, .inr (1, [.ref b, .int x, .int 1, .int 1, .int di]))] := hD
  refine lv_aload_n hx hb dF_takePage_15 rfl (lv_at hl 0 rfl) ?_
  refine lv_iconst (v := 0) hx hb dF_takePage_16 (by decide) ?_
  refine va_put (D := (dC, dI)) (ci := 1) (v := .int 0) (ty := .boolean) (C := RF) (T := TF) (N := 5) hx hb hts (inC inF) tyF tyF_ok nmF hown hK hP hD hS 0 rfl rfl 4 (by decide) (hq _ wi_102) (fun _ h9 => h9) rfl (by decide +kernel) rfl rfl (Nat.le_of_ble_eq_true rfl) dF_takePage_17 (fun H locs hP hD hS => ?_)
  have hP : va_P (dC, dI) clB [(a, .inr (1, [.ref b, .int x, .int 1, .int 1, .int 0]))] H := hP
  have hD : va_D A [(a, .inr (1, [.ref b, .int x, .int 1, .int 1, .int 0]))] := hD
  exact W.vret hx hb hr (fun t ht hW => ⟨⟨(), rfl, trivial, by show va_P _ _ _ t.heap; rw [ht]; exact hP⟩, hS.F ht⟩) hS.2.2 dF_takePage_20

set_option maxHeartbeats 4000000 in
set_option maxRecDepth 100000 in
theorem c_F_dropPage (l : Launch) (dC : Nat → ClassId) (dI : Nat → Nat → Nat) (ka : Nat → ClassId) (sz : Nat) (a b : Nat) (pg pn us di : Int32) : Met l yF_dropPage wF_dropPage ({ frames := 0, cells := 0, slots := 0, locals := 0 }) (va_Pc [.ref a] (fun U => U.heap.size = sz ∧ tk_E dC dI ka U ∧ va_P (dC, dI) clB [(a, .inr (1, [.ref b, .int pg, .int pn, .int us, .int di]))] U.heap ∧ va_D (fun _ => True) [(a, .inr (1, [.ref b, .int pg, .int pn, .int us, .int di]))])) (va_Qv (fun _ : Unit => True) (fun _ t => va_P (dC, dI) clB [(a, .inr (1, [.ref b, .int (-1), .int 0, .int 0, .int 0]))] t.heap) (va_A [(a, .inr (1, [.ref b, .int pg, .int pn, .int us, .int di]))] sz)) 0 0 (va_A [(a, .inr (1, [.ref b, .int pg, .int pn, .int us, .int di]))] sz) := by
  refine Met.ofW (cc := cF_dropPage) (maxL := 1) (ret := none) (by decide) rfl ?_
  intro p e s m args below meth c s₁ B hml hv
  obtain ⟨rfl, hsz, hE, hP, hD0⟩ := hv
  have hx := B.exec
  have hb := B.bytes
  have hr := B.returns
  have hts := atoms_spec (ws := wF_dropPage) B.pre
  have hq : ∀ w ∈ lwg, w.before _ s = true := fun w h => hts w (List.mem_cons_of_mem _ h)
  have hown : s.vm.findClass RF = some m.cls := findClass_of_methodNamed B.named
  have hlocks := B.notSynchronized
  have hK := hE.1
  have hN := hE.2
  subst hsz
  have hD := hD0.self (sz := s.heap.size)
  generalize hAe : va_A [(a, .inr (1, [.ref b, .int pg, .int pn, .int us, .int di]))] s.heap.size = A at hD ⊢
  have hA : ∀ q : Nat, s.heap.size ≤ q → A q := fun q h => by rw [← hAe]; exact Or.inr h
  have hS : va_S A s.heap s.heap [] := va_S.rf
  have hP : va_P (dC, dI) clB [(a, .inr (1, [.ref b, .int pg, .int pn, .int us, .int di]))] s.heap := hP
  have hl := lv_entry ([.ref a]) (n := 1) (Nat.le_of_ble_eq_true rfl)
  rw [lg_entry_eq]
  generalize (lg_sl ([.ref a]) ++ List.replicate (1 - (lg_sl ([.ref a])).length) Slot.unset).toArray = ls at hl ⊢
  have hl : lv_has ls 1 [(0, .ref a)] := hl
  refine lv_aload_n hx hb dF_dropPage_0 rfl (lv_at hl 0 rfl) ?_
  refine lv_iconst (v := (-1)) hx hb dF_dropPage_1 (by decide) ?_
  refine va_put (D := (dC, dI)) (ci := 1) (v := .int (-1)) (ty := .int) (C := RF) (T := TF) (N := 5) hx hb hts (inC inF) tyF tyF_ok nmF hown hK hP hD hS 0 rfl rfl 1 (by decide) (hq _ wi_95) (fun _ h9 => h9) rfl (by decide +kernel) rfl rfl (Nat.le_of_ble_eq_true rfl) dF_dropPage_2 (fun H locs hP hD hS => ?_)
  have hP : va_P (dC, dI) clB [(a, .inr (1, [.ref b, .int (-1), .int pn, .int us, .int di]))] H := hP
  have hD : va_D A [(a, .inr (1, [.ref b, .int (-1), .int pn, .int us, .int di]))] := hD
  refine lv_aload_n hx hb dF_dropPage_5 rfl (lv_at hl 0 rfl) ?_
  refine lv_iconst (v := 0) hx hb dF_dropPage_6 (by decide) ?_
  refine va_put (D := (dC, dI)) (ci := 1) (v := .int 0) (ty := .int) (C := RF) (T := TF) (N := 5) hx hb hts (inC inF) tyF tyF_ok nmF hown hK hP hD hS 0 rfl rfl 2 (by decide) (hq _ wi_97) (fun _ h9 => h9) rfl (by decide +kernel) rfl rfl (Nat.le_of_ble_eq_true rfl) dF_dropPage_7 (fun H locs hP hD hS => ?_)
  have hP : va_P (dC, dI) clB [(a, .inr (1, [.ref b, .int (-1), .int 0, .int us, .int di]))] H := hP
  have hD : va_D A [(a, .inr (1, [.ref b, .int (-1), .int 0, .int us, .int di]))] := hD
  refine lv_aload_n hx hb dF_dropPage_10 rfl (lv_at hl 0 rfl) ?_
  refine lv_iconst (v := 0) hx hb dF_dropPage_11 (by decide) ?_
  refine va_put (D := (dC, dI)) (ci := 1) (v := .int 0) (ty := .int) (C := RF) (T := TF) (N := 5) hx hb hts (inC inF) tyF tyF_ok nmF hown hK hP hD hS 0 rfl rfl 3 (by decide) (hq _ wi_99) (fun _ h9 => h9) rfl (by decide +kernel) rfl rfl (Nat.le_of_ble_eq_true rfl) dF_dropPage_12 (fun H locs hP hD hS => ?_)
  have hP : va_P (dC, dI) clB [(a, .inr (1, [.ref b, .int (-1), .int 0, .int 0, .int di]))] H := hP
  have hD : va_D A [(a, .inr (1, [.ref b, .int (-1), .int 0, .int 0, .int di]))] := hD
  refine lv_aload_n hx hb dF_dropPage_15 rfl (lv_at hl 0 rfl) ?_
  refine lv_iconst (v := 0) hx hb dF_dropPage_16 (by decide) ?_
  refine va_put (D := (dC, dI)) (ci := 1) (v := .int 0) (ty := .boolean) (C := RF) (T := TF) (N := 5) hx hb hts (inC inF) tyF tyF_ok nmF hown hK hP hD hS 0 rfl rfl 4 (by decide) (hq _ wi_102) (fun _ h9 => h9) rfl (by decide +kernel) rfl rfl (Nat.le_of_ble_eq_true rfl) dF_dropPage_17 (fun H locs hP hD hS => ?_)
  have hP : va_P (dC, dI) clB [(a, .inr (1, [.ref b, .int (-1), .int 0, .int 0, .int 0]))] H := hP
  have hD : va_D A [(a, .inr (1, [.ref b, .int (-1), .int 0, .int 0, .int 0]))] := hD
  exact W.vret hx hb hr (fun t ht hW => ⟨⟨(), rfl, trivial, by show va_P _ _ _ t.heap; rw [ht]; exact hP⟩, hS.F ht⟩) hS.2.2 dF_dropPage_20

set_option maxHeartbeats 4000000 in
set_option maxRecDepth 100000 in
theorem c_F_place (l : Launch) (dC : Nat → ClassId) (dI : Nat → Nat → Nat) (ka : Nat → ClassId) (a b : Nat) (pg pn us di : Int32) (f : Nat → Int32) : Met l yF_place wF_place ({ frames := 1, cells := 0, slots := 0, locals := 21 }) (va_Pc [.ref a] (fun U => tk_E dC dI ka U ∧ va_P (dC, dI) clB [(a, .inr (1, [.ref b, .int pg, .int pn, .int us, .int di])), (b, .inl (ka 0, 512, .inl f))] U.heap)) (vp_Si (fun r => r = plB f)) 0 0 (fun _ => False) := by
  refine Met.ofW (cc := cF_place) (maxL := 1) (ret := (some .int)) (by decide) rfl ?_
  intro p e s m args below meth c s₁ B hml hv
  obtain ⟨rfl, hE, hP⟩ := hv
  have hx := B.exec
  have hb := B.bytes
  have hr := B.returns
  have hts := atoms_spec (ws := wF_place) B.pre
  have hq : ∀ w ∈ lwg, w.before _ s = true := fun w h => hts w (List.mem_cons_of_mem _ h)
  have hown : s.vm.findClass RF = some m.cls := findClass_of_methodNamed B.named
  have hlocks := B.notSynchronized
  have hK := hE.1
  have hN := hE.2
  have hP : va_P (dC, dI) clB [(a, .inr (1, [.ref b, .int pg, .int pn, .int us, .int di])), (b, .inl (ka 0, 512, .inl f))] s.heap := hP
  have hl := lv_entry ([.ref a]) (n := 1) (Nat.le_of_ble_eq_true rfl)
  rw [lg_entry_eq]
  generalize (lg_sl ([.ref a]) ++ List.replicate (1 - (lg_sl ([.ref a])).length) Slot.unset).toArray = ls at hl ⊢
  have hl : lv_has ls 1 [(0, .ref a)] := hl
  refine lv_aload_n hx hb dF_place_0 rfl (lv_at hl 0 rfl) ?_
  refine va_get (D := (dC, dI)) (ci := 1) (v := .ref b) (C := RF) (T := TF) (N := 5) hx hb hts (inC inF) hown hK hP 0 rfl rfl 0 (by decide) (hq _ wi_93) (fun _ h9 => h9) rfl dF_place_1 ?_
  refine lv_iconst (v := 2) hx hb dF_place_4 (by decide) ?_
  refine vp_callSi (va_Run.run (va_runSN (As := [.ref b, .int 2]) (rest := []) ⟨hx, hb, hml, hown, hts⟩ (c_B_twoBytes l dC dI ka b 512 f 2 2 rfl (by decide) (by decide)) ⟨va_cnB 2 hts (tw_I wi_163) rfl rfl rfl (hN _ ns_13) (hq _ wi_24) (by decide +kernel) ⟨Nat.le_of_ble_eq_true rfl, Nat.le_of_ble_eq_true rfl⟩, hq _ wi_162, trivial⟩ ⟨fun a U g mk q => ⟨q.1, tk_E.call q.2.1, q.2.2⟩, fun U hU hW => ⟨rfl, tk_E.warm hW hE, by rw [hU]; exact (tk_one hP (k := 1) rfl)⟩⟩ rfl rfl hl.1 rfl (lv_room (Nat.le_of_ble_eq_true rfl)) dF_place_5 ⟨Nat.zero_le _, Nat.zero_le _⟩)) (fun r_1 er_1 => ?_)
  subst er_1
  refine lv_bipush (v := 16) hx hb dF_place_8 (by decide) ?_
  refine lv_ishl hx hb dF_place_10 ?_
  refine lv_aload_n hx hb dF_place_11 rfl (lv_at hl 0 rfl) ?_
  refine va_get (D := (dC, dI)) (ci := 1) (v := .ref b) (C := RF) (T := TF) (N := 5) hx hb hts (inC inF) hown hK hP 0 rfl rfl 0 (by decide) (hq _ wi_93) (fun _ h9 => h9) rfl dF_place_12 ?_
  refine lv_iconst (v := 4) hx hb dF_place_15 (by decide) ?_
  refine vp_callSi (va_Run.run (va_runSN (As := [.ref b, .int 4]) (rest := [.int ((tb2 f 2) <<< ((16 : Int32) &&& 31))]) ⟨hx, hb, hml, hown, hts⟩ (c_B_twoBytes l dC dI ka b 512 f 4 4 rfl (by decide) (by decide)) ⟨va_cnB 2 hts (tw_I wi_163) rfl rfl rfl (hN _ ns_13) (hq _ wi_24) (by decide +kernel) ⟨Nat.le_of_ble_eq_true rfl, Nat.le_of_ble_eq_true rfl⟩, hq _ wi_162, trivial⟩ ⟨fun a U g mk q => ⟨q.1, tk_E.call q.2.1, q.2.2⟩, fun U hU hW => ⟨rfl, tk_E.warm hW hE, by rw [hU]; exact (tk_one hP (k := 1) rfl)⟩⟩ rfl rfl hl.1 rfl (lv_room (Nat.le_of_ble_eq_true rfl)) dF_place_16 ⟨Nat.zero_le _, Nat.zero_le _⟩)) (fun r_2 er_2 => ?_)
  subst er_2
  refine lv_ior hx hb dF_place_19 ?_
  exact W.iret (v := (((tb2 f 2) <<< ((16 : Int32) &&& 31)) ||| (tb2 f 4))) hx hb hr (fun t ht hW => ⟨(((tb2 f 2) <<< ((16 : Int32) &&& 31)) ||| (tb2 f 4)), rfl, rfl, ht⟩) (fun _ h => by cases h) dF_place_20
end
section
/-- the bytes behind a change -/
def chB (f : Nat → Int32) (n : Nat) (v pl : Int32) : Nat → Int32 := upd (upd (upd (upd (upd f n v.toInt8.toInt32) 2 ((pl.toUInt32 >>> ((24 : Int32).toUInt32 &&& Int32.toUInt32 31)).toInt32).toInt8.toInt32) 3 ((pl.toUInt32 >>> ((16 : Int32).toUInt32 &&& Int32.toUInt32 31)).toInt32).toInt8.toInt32) 4 ((pl.toUInt32 >>> ((8 : Int32).toUInt32 &&& Int32.toUInt32 31)).toInt32).toInt8.toInt32) 5 pl.toInt8.toInt32
/-- the bytes behind both stamps -/
def psB (f : Nat → Int32) (x : Int32) : Nat → Int32 := upd (upd (upd (upd f 0 ((x.toUInt32 >>> ((8 : Int32).toUInt32 &&& Int32.toUInt32 31)).toInt32).toInt8.toInt32) 1 x.toInt8.toInt32) 510 ((x.toUInt32 >>> ((8 : Int32).toUInt32 &&& Int32.toUInt32 31)).toInt32).toInt8.toInt32) 511 x.toInt8.toInt32

set_option maxHeartbeats 4000000 in
set_option maxRecDepth 100000 in
theorem c_F_change (l : Launch) (dC : Nat → ClassId) (dI : Nat → Nat → Nat) (ka : Nat → ClassId) (sz : Nat) (a b : Nat) (pg pn us di : Int32) (f : Nat → Int32) (x v pl : Int32) (n : Nat) (ex : x = nI n) (hn : n < 512) : Met l yF_change wF_change ({ frames := 0, cells := 0, slots := 0, locals := 0 }) (va_Pc [.ref a, .int x, .int v, .int pl] (fun U => U.heap.size = sz ∧ tk_E dC dI ka U ∧ va_P (dC, dI) clB [(a, .inr (1, [.ref b, .int pg, .int pn, .int us, .int di])), (b, .inl (ka 0, 512, .inl f))] U.heap ∧ va_D (fun _ => True) [(a, .inr (1, [.ref b, .int pg, .int pn, .int us, .int di])), (b, .inl (ka 0, 512, .inl f))])) (va_Qv (fun _ : Unit => True) (fun _ t => va_P (dC, dI) clB [(a, .inr (1, [.ref b, .int pg, .int pn, .int us, .int 1])), (b, .inl (ka 0, 512, .inl (chB f n v pl)))] t.heap) (va_A [(a, .inr (1, [.ref b, .int pg, .int pn, .int us, .int di])), (b, .inl (ka 0, 512, .inl f))] sz)) 0 0 (va_A [(a, .inr (1, [.ref b, .int pg, .int pn, .int us, .int di])), (b, .inl (ka 0, 512, .inl f))] sz) := by
  refine Met.ofW (cc := cF_change) (maxL := 4) (ret := none) (by decide) rfl ?_
  intro p e s m args below meth c s₁ B hml hv
  obtain ⟨rfl, hsz, hE, hP, hD0⟩ := hv
  have hx := B.exec
  have hb := B.bytes
  have hr := B.returns
  have hts := atoms_spec (ws := wF_change) B.pre
  have hq : ∀ w ∈ lwg, w.before _ s = true := fun w h => hts w (List.mem_cons_of_mem _ h)
  have hown : s.vm.findClass RF = some m.cls := findClass_of_methodNamed B.named
  have hlocks := B.notSynchronized
  have hK := hE.1
  have hN := hE.2
  subst hsz
  have hD := hD0.self (sz := s.heap.size)
  generalize hAe : va_A [(a, .inr (1, [.ref b, .int pg, .int pn, .int us, .int di])), (b, .inl (ka 0, 512, .inl f))] s.heap.size = A at hD ⊢
  have hA : ∀ q : Nat, s.heap.size ≤ q → A q := fun q h => by rw [← hAe]; exact Or.inr h
  have hS : va_S A s.heap s.heap [] := va_S.rf
  have hP : va_P (dC, dI) clB [(a, .inr (1, [.ref b, .int pg, .int pn, .int us, .int di])), (b, .inl (ka 0, 512, .inl f))] s.heap := hP
  have hl := lv_entry ([.ref a, .int x, .int v, .int pl]) (n := 4) (Nat.le_of_ble_eq_true rfl)
  rw [lg_entry_eq]
  generalize (lg_sl ([.ref a, .int x, .int v, .int pl]) ++ List.replicate (4 - (lg_sl ([.ref a, .int x, .int v, .int pl])).length) Slot.unset).toArray = ls at hl ⊢
  have hl : lv_has ls 4 [(0, .ref a), (1, .int x), (2, .int v), (3, .int pl)] := hl
  refine lv_aload_n hx hb dF_change_0 rfl (lv_at hl 0 rfl) ?_
  refine va_get (D := (dC, dI)) (ci := 1) (v := .ref b) (C := RF) (T := TF) (N := 5) hx hb hts (inC inF) hown hK hP 0 rfl rfl 0 (by decide) (hq _ wi_93) (fun _ h9 => h9) rfl dF_change_1 ?_
  refine lv_iload_n hx hb dF_change_4 rfl (lv_at hl 1 rfl) ?_
  refine lv_iload_n hx hb dF_change_5 rfl (lv_at hl 2 rfl) ?_
  refine lv_i2b hx hb dF_change_6 rfl ?_
  refine tk_bast (n := n) (v := v.toInt8.toInt32) hx hb hK hP hD hS 1 0 rfl rfl ex hn (by decide) (pk_vb _) dF_change_7 (fun H locs hP hD hS => ?_)
  have hP : va_P (dC, dI) clB [(a, .inr (1, [.ref b, .int pg, .int pn, .int us, .int di])), (b, .inl (ka 0, 512, .inl (upd f n (v.toInt8.toInt32))))] H := hP
  have hD : va_D A [(a, .inr (1, [.ref b, .int pg, .int pn, .int us, .int di])), (b, .inl (ka 0, 512, .inl (upd f n (v.toInt8.toInt32))))] := hD
  refine lv_aload_n hx hb dF_change_8 rfl (lv_at hl 0 rfl) ?_
  refine va_get (D := (dC, dI)) (ci := 1) (v := .ref b) (C := RF) (T := TF) (N := 5) hx hb hts (inC inF) hown hK hP 0 rfl rfl 0 (by decide) (hq _ wi_93) (fun _ h9 => h9) rfl dF_change_9 ?_
  refine lv_iconst (v := 2) hx hb dF_change_12 (by decide) ?_
  refine lv_iload_n hx hb dF_change_13 rfl (lv_at hl 3 rfl) ?_
  refine lv_bipush (v := 24) hx hb dF_change_14 (by decide) ?_
  refine lv_iushr hx hb dF_change_16 rfl ?_
  refine lv_i2b hx hb dF_change_17 rfl ?_
  refine tk_bast (n := 2) (v := ((pl.toUInt32 >>> ((24 : Int32).toUInt32 &&& Int32.toUInt32 31)).toInt32).toInt8.toInt32) hx hb hK hP hD hS 1 0 rfl rfl rfl (by decide) (by decide) (pk_vb _) dF_change_18 (fun H locs hP hD hS => ?_)
  have hP : va_P (dC, dI) clB [(a, .inr (1, [.ref b, .int pg, .int pn, .int us, .int di])), (b, .inl (ka 0, 512, .inl (upd (upd f n (v.toInt8.toInt32)) 2 (((pl.toUInt32 >>> ((24 : Int32).toUInt32 &&& Int32.toUInt32 31)).toInt32).toInt8.toInt32))))] H := hP
  have hD : va_D A [(a, .inr (1, [.ref b, .int pg, .int pn, .int us, .int di])), (b, .inl (ka 0, 512, .inl (upd (upd f n (v.toInt8.toInt32)) 2 (((pl.toUInt32 >>> ((24 : Int32).toUInt32 &&& Int32.toUInt32 31)).toInt32).toInt8.toInt32))))] := hD
  refine lv_aload_n hx hb dF_change_19 rfl (lv_at hl 0 rfl) ?_
  refine va_get (D := (dC, dI)) (ci := 1) (v := .ref b) (C := RF) (T := TF) (N := 5) hx hb hts (inC inF) hown hK hP 0 rfl rfl 0 (by decide) (hq _ wi_93) (fun _ h9 => h9) rfl dF_change_20 ?_
  refine lv_iconst (v := 3) hx hb dF_change_23 (by decide) ?_
  refine lv_iload_n hx hb dF_change_24 rfl (lv_at hl 3 rfl) ?_
  refine lv_bipush (v := 16) hx hb dF_change_25 (by decide) ?_
  refine lv_iushr hx hb dF_change_27 rfl ?_
  refine lv_i2b hx hb dF_change_28 rfl ?_
  refine tk_bast (n := 3) (v := ((pl.toUInt32 >>> ((16 : Int32).toUInt32 &&& Int32.toUInt32 31)).toInt32).toInt8.toInt32) hx hb hK hP hD hS 1 0 rfl rfl rfl (by decide) (by decide) (pk_vb _) dF_change_29 (fun H locs hP hD hS => ?_)
  have hP : va_P (dC, dI) clB [(a, .inr (1, [.ref b, .int pg, .int pn, .int us, .int di])), (b, .inl (ka 0, 512, .inl (upd (upd (upd f n (v.toInt8.toInt32)) 2 (((pl.toUInt32 >>> ((24 : Int32).toUInt32 &&& Int32.toUInt32 31)).toInt32).toInt8.toInt32)) 3 (((pl.toUInt32 >>> ((16 : Int32).toUInt32 &&& Int32.toUInt32 31)).toInt32).toInt8.toInt32))))] H := hP
  have hD : va_D A [(a, .inr (1, [.ref b, .int pg, .int pn, .int us, .int di])), (b, .inl (ka 0, 512, .inl (upd (upd (upd f n (v.toInt8.toInt32)) 2 (((pl.toUInt32 >>> ((24 : Int32).toUInt32 &&& Int32.toUInt32 31)).toInt32).toInt8.toInt32)) 3 (((pl.toUInt32 >>> ((16 : Int32).toUInt32 &&& Int32.toUInt32 31)).toInt32).toInt8.toInt32))))] := hD
  refine lv_aload_n hx hb dF_change_30 rfl (lv_at hl 0 rfl) ?_
  refine va_get (D := (dC, dI)) (ci := 1) (v := .ref b) (C := RF) (T := TF) (N := 5) hx hb hts (inC inF) hown hK hP 0 rfl rfl 0 (by decide) (hq _ wi_93) (fun _ h9 => h9) rfl dF_change_31 ?_
  refine lv_iconst (v := 4) hx hb dF_change_34 (by decide) ?_
  refine lv_iload_n hx hb dF_change_35 rfl (lv_at hl 3 rfl) ?_
  refine lv_bipush (v := 8) hx hb dF_change_36 (by decide) ?_
  refine lv_iushr hx hb dF_change_38 rfl ?_
  refine lv_i2b hx hb dF_change_39 rfl ?_
  refine tk_bast (n := 4) (v := ((pl.toUInt32 >>> ((8 : Int32).toUInt32 &&& Int32.toUInt32 31)).toInt32).toInt8.toInt32) hx hb hK hP hD hS 1 0 rfl rfl rfl (by decide) (by decide) (pk_vb _) dF_change_40 (fun H locs hP hD hS => ?_)
  have hP : va_P (dC, dI) clB [(a, .inr (1, [.ref b, .int pg, .int pn, .int us, .int di])), (b, .inl (ka 0, 512, .inl (upd (upd (upd (upd f n (v.toInt8.toInt32)) 2 (((pl.toUInt32 >>> ((24 : Int32).toUInt32 &&& Int32.toUInt32 31)).toInt32).toInt8.toInt32)) 3 (((pl.toUInt32 >>> ((16 : Int32).toUInt32 &&& Int32.toUInt32 31)).toInt32).toInt8.toInt32)) 4 (((pl.toUInt32 >>> ((8 : Int32).toUInt32 &&& Int32.toUInt32 31)).toInt32).toInt8.toInt32))))] H := hP
  have hD : va_D A [(a, .inr (1, [.ref b, .int pg, .int pn, .int us, .int di])), (b, .inl (ka 0, 512, .inl (upd (upd (upd (upd f n (v.toInt8.toInt32)) 2 (((pl.toUInt32 >>> ((24 : Int32).toUInt32 &&& Int32.toUInt32 31)).toInt32).toInt8.toInt32)) 3 (((pl.toUInt32 >>> ((16 : Int32).toUInt32 &&& Int32.toUInt32 31)).toInt32).toInt8.toInt32)) 4 (((pl.toUInt32 >>> ((8 : Int32).toUInt32 &&& Int32.toUInt32 31)).toInt32).toInt8.toInt32))))] := hD
  refine lv_aload_n hx hb dF_change_41 rfl (lv_at hl 0 rfl) ?_
  refine va_get (D := (dC, dI)) (ci := 1) (v := .ref b) (C := RF) (T := TF) (N := 5) hx hb hts (inC inF) hown hK hP 0 rfl rfl 0 (by decide) (hq _ wi_93) (fun _ h9 => h9) rfl dF_change_42 ?_
  refine lv_iconst (v := 5) hx hb dF_change_45 (by decide) ?_
  refine lv_iload_n hx hb dF_change_46 rfl (lv_at hl 3 rfl) ?_
  refine lv_i2b hx hb dF_change_47 rfl ?_
  refine tk_bast (n := 5) (v := pl.toInt8.toInt32) hx hb hK hP hD hS 1 0 rfl rfl rfl (by decide) (by decide) (pk_vb _) dF_change_48 (fun H locs hP hD hS => ?_)
  have hP : va_P (dC, dI) clB [(a, .inr (1, [.ref b, .int pg, .int pn, .int us, .int di])), (b, .inl (ka 0, 512, .inl (upd (upd (upd (upd (upd f n (v.toInt8.toInt32)) 2 (((pl.toUInt32 >>> ((24 : Int32).toUInt32 &&& Int32.toUInt32 31)).toInt32).toInt8.toInt32)) 3 (((pl.toUInt32 >>> ((16 : Int32).toUInt32 &&& Int32.toUInt32 31)).toInt32).toInt8.toInt32)) 4 (((pl.toUInt32 >>> ((8 : Int32).toUInt32 &&& Int32.toUInt32 31)).toInt32).toInt8.toInt32)) 5 (pl.toInt8.toInt32))))] H := hP
  have hD : va_D A [(a, .inr (1, [.ref b, .int pg, .int pn, .int us, .int di])), (b, .inl (ka 0, 512, .inl (upd (upd (upd (upd (upd f n (v.toInt8.toInt32)) 2 (((pl.toUInt32 >>> ((24 : Int32).toUInt32 &&& Int32.toUInt32 31)).toInt32).toInt8.toInt32)) 3 (((pl.toUInt32 >>> ((16 : Int32).toUInt32 &&& Int32.toUInt32 31)).toInt32).toInt8.toInt32)) 4 (((pl.toUInt32 >>> ((8 : Int32).toUInt32 &&& Int32.toUInt32 31)).toInt32).toInt8.toInt32)) 5 (pl.toInt8.toInt32))))] := hD
  refine lv_aload_n hx hb dF_change_49 rfl (lv_at hl 0 rfl) ?_
  refine lv_iconst (v := 1) hx hb dF_change_50 (by decide) ?_
  refine va_put (D := (dC, dI)) (ci := 1) (v := .int 1) (ty := .boolean) (C := RF) (T := TF) (N := 5) hx hb hts (inC inF) tyF tyF_ok nmF hown hK hP hD hS 0 rfl rfl 4 (by decide) (hq _ wi_102) (fun _ h9 => h9) rfl (by decide +kernel) rfl rfl (Nat.le_of_ble_eq_true rfl) dF_change_51 (fun H locs hP hD hS => ?_)
  have hP : va_P (dC, dI) clB [(a, .inr (1, [.ref b, .int pg, .int pn, .int us, .int 1])), (b, .inl (ka 0, 512, .inl (upd (upd (upd (upd (upd f n (v.toInt8.toInt32)) 2 (((pl.toUInt32 >>> ((24 : Int32).toUInt32 &&& Int32.toUInt32 31)).toInt32).toInt8.toInt32)) 3 (((pl.toUInt32 >>> ((16 : Int32).toUInt32 &&& Int32.toUInt32 31)).toInt32).toInt8.toInt32)) 4 (((pl.toUInt32 >>> ((8 : Int32).toUInt32 &&& Int32.toUInt32 31)).toInt32).toInt8.toInt32)) 5 (pl.toInt8.toInt32))))] H := hP
  have hD : va_D A [(a, .inr (1, [.ref b, .int pg, .int pn, .int us, .int 1])), (b, .inl (ka 0, 512, .inl (upd (upd (upd (upd (upd f n (v.toInt8.toInt32)) 2 (((pl.toUInt32 >>> ((24 : Int32).toUInt32 &&& Int32.toUInt32 31)).toInt32).toInt8.toInt32)) 3 (((pl.toUInt32 >>> ((16 : Int32).toUInt32 &&& Int32.toUInt32 31)).toInt32).toInt8.toInt32)) 4 (((pl.toUInt32 >>> ((8 : Int32).toUInt32 &&& Int32.toUInt32 31)).toInt32).toInt8.toInt32)) 5 (pl.toInt8.toInt32))))] := hD
  exact W.vret hx hb hr (fun t ht hW => ⟨⟨(), rfl, trivial, by show va_P _ _ _ t.heap; rw [ht]; exact hP⟩, hS.F ht⟩) hS.2.2 dF_change_54

set_option maxHeartbeats 4000000 in
set_option maxRecDepth 100000 in
theorem c_F_putStamps (l : Launch) (dC : Nat → ClassId) (dI : Nat → Nat → Nat) (ka : Nat → ClassId) (sz : Nat) (a b : Nat) (pg pn us di : Int32) (f : Nat → Int32) (x : Int32) : Met l yF_putStamps wF_putStamps ({ frames := 0, cells := 0, slots := 0, locals := 0 }) (va_Pc [.ref a, .int x] (fun U => U.heap.size = sz ∧ tk_E dC dI ka U ∧ va_P (dC, dI) clB [(a, .inr (1, [.ref b, .int pg, .int pn, .int us, .int di])), (b, .inl (ka 0, 512, .inl f))] U.heap ∧ va_D (fun _ => True) [(a, .inr (1, [.ref b, .int pg, .int pn, .int us, .int di])), (b, .inl (ka 0, 512, .inl f))])) (va_Qv (fun _ : Unit => True) (fun _ t => va_P (dC, dI) clB [(a, .inr (1, [.ref b, .int pg, .int pn, .int us, .int di])), (b, .inl (ka 0, 512, .inl (psB f x)))] t.heap) (va_A [(a, .inr (1, [.ref b, .int pg, .int pn, .int us, .int di])), (b, .inl (ka 0, 512, .inl f))] sz)) 0 0 (va_A [(a, .inr (1, [.ref b, .int pg, .int pn, .int us, .int di])), (b, .inl (ka 0, 512, .inl f))] sz) := by
  refine Met.ofW (cc := cF_putStamps) (maxL := 2) (ret := none) (by decide) rfl ?_
  intro p e s m args below meth c s₁ B hml hv
  obtain ⟨rfl, hsz, hE, hP, hD0⟩ := hv
  have hx := B.exec
  have hb := B.bytes
  have hr := B.returns
  have hts := atoms_spec (ws := wF_putStamps) B.pre
  have hq : ∀ w ∈ lwg, w.before _ s = true := fun w h => hts w (List.mem_cons_of_mem _ h)
  have hown : s.vm.findClass RF = some m.cls := findClass_of_methodNamed B.named
  have hlocks := B.notSynchronized
  have hK := hE.1
  have hN := hE.2
  subst hsz
  have hD := hD0.self (sz := s.heap.size)
  generalize hAe : va_A [(a, .inr (1, [.ref b, .int pg, .int pn, .int us, .int di])), (b, .inl (ka 0, 512, .inl f))] s.heap.size = A at hD ⊢
  have hA : ∀ q : Nat, s.heap.size ≤ q → A q := fun q h => by rw [← hAe]; exact Or.inr h
  have hS : va_S A s.heap s.heap [] := va_S.rf
  have hP : va_P (dC, dI) clB [(a, .inr (1, [.ref b, .int pg, .int pn, .int us, .int di])), (b, .inl (ka 0, 512, .inl f))] s.heap := hP
  have hl := lv_entry ([.ref a, .int x]) (n := 2) (Nat.le_of_ble_eq_true rfl)
  rw [lg_entry_eq]
  generalize (lg_sl ([.ref a, .int x]) ++ List.replicate (2 - (lg_sl ([.ref a, .int x])).length) Slot.unset).toArray = ls at hl ⊢
  have hl : lv_has ls 2 [(0, .ref a), (1, .int x)] := hl
  refine lv_aload_n hx hb dF_putStamps_0 rfl (lv_at hl 0 rfl) ?_
  refine va_get (D := (dC, dI)) (ci := 1) (v := .ref b) (C := RF) (T := TF) (N := 5) hx hb hts (inC inF) hown hK hP 0 rfl rfl 0 (by decide) (hq _ wi_93) (fun _ h9 => h9) rfl dF_putStamps_1 ?_
  refine lv_iconst (v := 0) hx hb dF_putStamps_4 (by decide) ?_
  refine lv_iload_n hx hb dF_putStamps_5 rfl (lv_at hl 1 rfl) ?_
  refine lv_bipush (v := 8) hx hb dF_putStamps_6 (by decide) ?_
  refine lv_iushr hx hb dF_putStamps_8 rfl ?_
  refine lv_i2b hx hb dF_putStamps_9 rfl ?_
  refine tk_bast (n := 0) (v := ((x.toUInt32 >>> ((8 : Int32).toUInt32 &&& Int32.toUInt32 31)).toInt32).toInt8.toInt32) hx hb hK hP hD hS 1 0 rfl rfl rfl (by decide) (by decide) (pk_vb _) dF_putStamps_10 (fun H locs hP hD hS => ?_)
  have hP : va_P (dC, dI) clB [(a, .inr (1, [.ref b, .int pg, .int pn, .int us, .int di])), (b, .inl (ka 0, 512, .inl (upd f 0 (((x.toUInt32 >>> ((8 : Int32).toUInt32 &&& Int32.toUInt32 31)).toInt32).toInt8.toInt32))))] H := hP
  have hD : va_D A [(a, .inr (1, [.ref b, .int pg, .int pn, .int us, .int di])), (b, .inl (ka 0, 512, .inl (upd f 0 (((x.toUInt32 >>> ((8 : Int32).toUInt32 &&& Int32.toUInt32 31)).toInt32).toInt8.toInt32))))] := hD
  refine lv_aload_n hx hb dF_putStamps_11 rfl (lv_at hl 0 rfl) ?_
  refine va_get (D := (dC, dI)) (ci := 1) (v := .ref b) (C := RF) (T := TF) (N := 5) hx hb hts (inC inF) hown hK hP 0 rfl rfl 0 (by decide) (hq _ wi_93) (fun _ h9 => h9) rfl dF_putStamps_12 ?_
  refine lv_iconst (v := 1) hx hb dF_putStamps_15 (by decide) ?_
  refine lv_iload_n hx hb dF_putStamps_16 rfl (lv_at hl 1 rfl) ?_
  refine lv_i2b hx hb dF_putStamps_17 rfl ?_
  refine tk_bast (n := 1) (v := x.toInt8.toInt32) hx hb hK hP hD hS 1 0 rfl rfl rfl (by decide) (by decide) (pk_vb _) dF_putStamps_18 (fun H locs hP hD hS => ?_)
  have hP : va_P (dC, dI) clB [(a, .inr (1, [.ref b, .int pg, .int pn, .int us, .int di])), (b, .inl (ka 0, 512, .inl (upd (upd f 0 (((x.toUInt32 >>> ((8 : Int32).toUInt32 &&& Int32.toUInt32 31)).toInt32).toInt8.toInt32)) 1 (x.toInt8.toInt32))))] H := hP
  have hD : va_D A [(a, .inr (1, [.ref b, .int pg, .int pn, .int us, .int di])), (b, .inl (ka 0, 512, .inl (upd (upd f 0 (((x.toUInt32 >>> ((8 : Int32).toUInt32 &&& Int32.toUInt32 31)).toInt32).toInt8.toInt32)) 1 (x.toInt8.toInt32))))] := hD
  refine lv_aload_n hx hb dF_putStamps_19 rfl (lv_at hl 0 rfl) ?_
  refine va_get (D := (dC, dI)) (ci := 1) (v := .ref b) (C := RF) (T := TF) (N := 5) hx hb hts (inC inF) hown hK hP 0 rfl rfl 0 (by decide) (hq _ wi_93) (fun _ h9 => h9) rfl dF_putStamps_20 ?_
  refine lv_sipush (v := 510) hx hb dF_putStamps_23 (by decide) ?_
  refine lv_aload_n hx hb dF_putStamps_26 rfl (lv_at hl 0 rfl) ?_
  refine va_get (D := (dC, dI)) (ci := 1) (v := .ref b) (C := RF) (T := TF) (N := 5) hx hb hts (inC inF) hown hK hP 0 rfl rfl 0 (by decide) (hq _ wi_93) (fun _ h9 => h9) rfl dF_putStamps_27 ?_
  refine lv_iconst (v := 0) hx hb dF_putStamps_30 (by decide) ?_
  refine tk_bald (n := 0) hx hb hK hP 1 0 rfl rfl rfl (by decide) (by decide) dF_putStamps_31 ?_
  refine tk_bast (n := 510) (v := ((x.toUInt32 >>> ((8 : Int32).toUInt32 &&& Int32.toUInt32 31)).toInt32).toInt8.toInt32) hx hb hK hP hD hS 1 0 rfl rfl rfl (by decide) (by decide) (pk_vb _) dF_putStamps_32 (fun H locs hP hD hS => ?_)
  have hP : va_P (dC, dI) clB [(a, .inr (1, [.ref b, .int pg, .int pn, .int us, .int di])), (b, .inl (ka 0, 512, .inl (upd (upd (upd f 0 (((x.toUInt32 >>> ((8 : Int32).toUInt32 &&& Int32.toUInt32 31)).toInt32).toInt8.toInt32)) 1 (x.toInt8.toInt32)) 510 (((x.toUInt32 >>> ((8 : Int32).toUInt32 &&& Int32.toUInt32 31)).toInt32).toInt8.toInt32))))] H := hP
  have hD : va_D A [(a, .inr (1, [.ref b, .int pg, .int pn, .int us, .int di])), (b, .inl (ka 0, 512, .inl (upd (upd (upd f 0 (((x.toUInt32 >>> ((8 : Int32).toUInt32 &&& Int32.toUInt32 31)).toInt32).toInt8.toInt32)) 1 (x.toInt8.toInt32)) 510 (((x.toUInt32 >>> ((8 : Int32).toUInt32 &&& Int32.toUInt32 31)).toInt32).toInt8.toInt32))))] := hD
  refine lv_aload_n hx hb dF_putStamps_33 rfl (lv_at hl 0 rfl) ?_
  refine va_get (D := (dC, dI)) (ci := 1) (v := .ref b) (C := RF) (T := TF) (N := 5) hx hb hts (inC inF) hown hK hP 0 rfl rfl 0 (by decide) (hq _ wi_93) (fun _ h9 => h9) rfl dF_putStamps_34 ?_
  refine lv_sipush (v := 511) hx hb dF_putStamps_37 (by decide) ?_
  refine lv_aload_n hx hb dF_putStamps_40 rfl (lv_at hl 0 rfl) ?_
  refine va_get (D := (dC, dI)) (ci := 1) (v := .ref b) (C := RF) (T := TF) (N := 5) hx hb hts (inC inF) hown hK hP 0 rfl rfl 0 (by decide) (hq _ wi_93) (fun _ h9 => h9) rfl dF_putStamps_41 ?_
  refine lv_iconst (v := 1) hx hb dF_putStamps_44 (by decide) ?_
  refine tk_bald (n := 1) hx hb hK hP 1 0 rfl rfl rfl (by decide) (by decide) dF_putStamps_45 ?_
  refine tk_bast (n := 511) (v := x.toInt8.toInt32) hx hb hK hP hD hS 1 0 rfl rfl rfl (by decide) (by decide) (pk_vb _) dF_putStamps_46 (fun H locs hP hD hS => ?_)
  have hP : va_P (dC, dI) clB [(a, .inr (1, [.ref b, .int pg, .int pn, .int us, .int di])), (b, .inl (ka 0, 512, .inl (upd (upd (upd (upd f 0 (((x.toUInt32 >>> ((8 : Int32).toUInt32 &&& Int32.toUInt32 31)).toInt32).toInt8.toInt32)) 1 (x.toInt8.toInt32)) 510 (((x.toUInt32 >>> ((8 : Int32).toUInt32 &&& Int32.toUInt32 31)).toInt32).toInt8.toInt32)) 511 (x.toInt8.toInt32))))] H := hP
  have hD : va_D A [(a, .inr (1, [.ref b, .int pg, .int pn, .int us, .int di])), (b, .inl (ka 0, 512, .inl (upd (upd (upd (upd f 0 (((x.toUInt32 >>> ((8 : Int32).toUInt32 &&& Int32.toUInt32 31)).toInt32).toInt8.toInt32)) 1 (x.toInt8.toInt32)) 510 (((x.toUInt32 >>> ((8 : Int32).toUInt32 &&& Int32.toUInt32 31)).toInt32).toInt8.toInt32)) 511 (x.toInt8.toInt32))))] := hD
  exact W.vret hx hb hr (fun t ht hW => ⟨⟨(), rfl, trivial, by show va_P _ _ _ t.heap; rw [ht]; exact hP⟩, hS.F ht⟩) hS.2.2 dF_putStamps_47

set_option maxHeartbeats 4000000 in
set_option maxRecDepth 100000 in
theorem c_F_raiseStamps (l : Launch) (dC : Nat → ClassId) (dI : Nat → Nat → Nat) (ka : Nat → ClassId) (sz : Nat) (a b : Nat) (pg pn us di : Int32) (f : Nat → Int32) : Met l yF_raiseStamps wF_raiseStamps ({ frames := 1, cells := 0, slots := 0, locals := 21 }) (va_Pc [.ref a] (fun U => U.heap.size = sz ∧ tk_E dC dI ka U ∧ va_P (dC, dI) clB [(a, .inr (1, [.ref b, .int pg, .int pn, .int us, .int di])), (b, .inl (ka 0, 512, .inl f))] U.heap ∧ va_D (fun _ => True) [(a, .inr (1, [.ref b, .int pg, .int pn, .int us, .int di])), (b, .inl (ka 0, 512, .inl f))])) (va_Qv (fun _ : Unit => True) (fun _ t => va_P (dC, dI) clB [(a, .inr (1, [.ref b, .int pg, .int pn, .int us, .int di])), (b, .inl (ka 0, 512, .inl (psB f (tb2 f 0 + 1))))] t.heap) (va_A [(a, .inr (1, [.ref b, .int pg, .int pn, .int us, .int di])), (b, .inl (ka 0, 512, .inl f))] sz)) 0 0 (va_A [(a, .inr (1, [.ref b, .int pg, .int pn, .int us, .int di])), (b, .inl (ka 0, 512, .inl f))] sz) := by
  refine Met.ofW (cc := cF_raiseStamps) (maxL := 1) (ret := none) (by decide) rfl ?_
  intro p e s m args below meth c s₁ B hml hv
  obtain ⟨rfl, hsz, hE, hP, hD0⟩ := hv
  have hx := B.exec
  have hb := B.bytes
  have hr := B.returns
  have hts := atoms_spec (ws := wF_raiseStamps) B.pre
  have hq : ∀ w ∈ lwg, w.before _ s = true := fun w h => hts w (List.mem_cons_of_mem _ h)
  have hown : s.vm.findClass RF = some m.cls := findClass_of_methodNamed B.named
  have hlocks := B.notSynchronized
  have hK := hE.1
  have hN := hE.2
  subst hsz
  have hD := hD0.self (sz := s.heap.size)
  generalize hAe : va_A [(a, .inr (1, [.ref b, .int pg, .int pn, .int us, .int di])), (b, .inl (ka 0, 512, .inl f))] s.heap.size = A at hD ⊢
  have hA : ∀ q : Nat, s.heap.size ≤ q → A q := fun q h => by rw [← hAe]; exact Or.inr h
  have hS : va_S A s.heap s.heap [] := va_S.rf
  have hP : va_P (dC, dI) clB [(a, .inr (1, [.ref b, .int pg, .int pn, .int us, .int di])), (b, .inl (ka 0, 512, .inl f))] s.heap := hP
  have hl := lv_entry ([.ref a]) (n := 1) (Nat.le_of_ble_eq_true rfl)
  rw [lg_entry_eq]
  generalize (lg_sl ([.ref a]) ++ List.replicate (1 - (lg_sl ([.ref a])).length) Slot.unset).toArray = ls at hl ⊢
  have hl : lv_has ls 1 [(0, .ref a)] := hl
  refine lv_aload_n hx hb dF_raiseStamps_0 rfl (lv_at hl 0 rfl) ?_
  refine lv_aload_n hx hb dF_raiseStamps_1 rfl (lv_at hl 0 rfl) ?_
  refine va_get (D := (dC, dI)) (ci := 1) (v := .ref b) (C := RF) (T := TF) (N := 5) hx hb hts (inC inF) hown hK hP 0 rfl rfl 0 (by decide) (hq _ wi_93) (fun _ h9 => h9) rfl dF_raiseStamps_2 ?_
  refine lv_iconst (v := 0) hx hb dF_raiseStamps_5 (by decide) ?_
  refine vp_callSi (va_Run.run (va_runSN (As := [.ref b, .int 0]) (rest := [.ref a]) ⟨hx, hb, hml, hown, hts⟩ (c_B_twoBytes l dC dI ka b 512 f 0 0 rfl (by decide) (by decide)) ⟨va_cnB 2 hts (tw_I wi_163) rfl rfl rfl (hN _ ns_13) (hq _ wi_24) (by decide +kernel) ⟨Nat.le_of_ble_eq_true rfl, Nat.le_of_ble_eq_true rfl⟩, hq _ wi_162, trivial⟩ ⟨fun a U g mk q => ⟨q.1, tk_E.call q.2.1, q.2.2⟩, fun U hU hW => ⟨rfl, tk_E.warm hW hE, by rw [hU]; exact (tk_one hP (k := 1) rfl)⟩⟩ rfl rfl hl.1 rfl (lv_room (Nat.le_of_ble_eq_true rfl)) dF_raiseStamps_6 ⟨Nat.zero_le _, Nat.zero_le _⟩)) (fun r_1 er_1 => ?_)
  subst er_1
  refine lv_iconst (v := 1) hx hb dF_raiseStamps_9 (by decide) ?_
  refine lv_iadd hx hb dF_raiseStamps_10 ?_
  have hFc := tk_free2 (k := 0) (k' := 1) hD hS hA rfl rfl
  refine va_callv (va_runV (As := [.int ((tb2 f 0) + 1)]) (rest := []) ⟨hx, hb, hml, hown, hts⟩ (c_F_putStamps l dC dI ka _ a b pg pn us di f ((tb2 f 0) + 1)) (cwV 1 hts (tw_V wi_370 wi_372 wi_7 wi_27 wi_373) rfl rfl rfl (by decide +kernel) ⟨Nat.le_of_ble_eq_true rfl, Nat.le_of_ble_eq_true rfl⟩) ⟨fun a U g mk q => ⟨q.1, q.2.1, tk_E.call q.2.2.1, q.2.2.2⟩, va_recv hK hP (ci := 1) (q0 := 0) rfl rfl, fun U hU hW => ⟨rfl, by rw [hU], tk_E.warm hW hE, by rw [hU]; exact (tk_two hP (k := 0) (k' := 1) rfl rfl), (tk_dtwo hD (k := 0) (k' := 1) rfl rfl (by decide))⟩⟩ rfl rfl hl.1 rfl (lv_room (Nat.le_of_ble_eq_true rfl)) dF_raiseStamps_11 ⟨Nat.zero_le _, Nat.zero_le _⟩) hS (fun q _ h => hFc q h) hFc (fun u_2 t H1 locs ht hvm hw hB hz1 hk1 hS => ?_)
  have hB : va_P (dC, dI) clB [(a, .inr (1, [.ref b, .int pg, .int pn, .int us, .int di])), (b, .inl (ka 0, 512, .inl (psB f ((tb2 f 0) + 1))))] H1 := by rw [← ht]; exact hB
  obtain ⟨hP, hD⟩ := tk_join2 (k := 0) (k' := 1) hP hD rfl rfl (by decide) hk1 hB
  generalize H1 = H at hP hS ⊢
  have hP : va_P (dC, dI) clB [(a, .inr (1, [.ref b, .int pg, .int pn, .int us, .int di])), (b, .inl (ka 0, 512, .inl (psB f ((tb2 f 0) + 1))))] H := hP
  have hD : va_D A [(a, .inr (1, [.ref b, .int pg, .int pn, .int us, .int di])), (b, .inl (ka 0, 512, .inl (psB f ((tb2 f 0) + 1))))] := hD
  exact W.vret hx hb hr (fun t ht hW => ⟨⟨(), rfl, trivial, by show va_P _ _ _ t.heap; rw [ht]; exact hP⟩, hS.F ht⟩) hS.2.2 dF_raiseStamps_14

set_option maxHeartbeats 4000000 in
set_option maxRecDepth 100000 in
theorem c_G_advance (l : Launch) (dC : Nat → ClassId) (dI : Nat → Nat → Nat) (ka : Nat → ClassId) (sz : Nat) (a : Nat) (en fl x : Int32) : Met l yG_advance wG_advance ({ frames := 0, cells := 0, slots := 0, locals := 0 }) (va_Pc [.ref a, .int x] (fun U => U.heap.size = sz ∧ tk_E dC dI ka U ∧ va_P (dC, dI) clB [(a, .inr (2, [.int en, .int fl]))] U.heap ∧ va_D (fun _ => True) [(a, .inr (2, [.int en, .int fl]))])) (va_Qi (fun (r : Int32) (_ : Unit) => r = if en < x then 1 else 0) (fun _ t => va_P (dC, dI) clB [(a, .inr (2, [.int (if en < x then x else en), .int fl]))] t.heap) (va_A [(a, .inr (2, [.int en, .int fl]))] sz)) 0 0 (va_A [(a, .inr (2, [.int en, .int fl]))] sz) := by
  refine Met.ofW (cc := cG_advance) (maxL := 2) (ret := (some .boolean)) (by decide) rfl ?_
  intro p e s m args below meth c s₁ B hml hv
  obtain ⟨rfl, hsz, hE, hP, hD0⟩ := hv
  have hx := B.exec
  have hb := B.bytes
  have hr := B.returns
  have hts := atoms_spec (ws := wG_advance) B.pre
  have hq : ∀ w ∈ lwg, w.before _ s = true := fun w h => hts w (List.mem_cons_of_mem _ h)
  have hown : s.vm.findClass RG = some m.cls := findClass_of_methodNamed B.named
  have hlocks := B.notSynchronized
  have hK := hE.1
  have hN := hE.2
  subst hsz
  have hD := hD0.self (sz := s.heap.size)
  generalize hAe : va_A [(a, .inr (2, [.int en, .int fl]))] s.heap.size = A at hD ⊢
  have hA : ∀ q : Nat, s.heap.size ≤ q → A q := fun q h => by rw [← hAe]; exact Or.inr h
  have hS : va_S A s.heap s.heap [] := va_S.rf
  have hP : va_P (dC, dI) clB [(a, .inr (2, [.int en, .int fl]))] s.heap := hP
  have hl := lv_entry ([.ref a, .int x]) (n := 2) (Nat.le_of_ble_eq_true rfl)
  rw [lg_entry_eq]
  generalize (lg_sl ([.ref a, .int x]) ++ List.replicate (2 - (lg_sl ([.ref a, .int x])).length) Slot.unset).toArray = ls at hl ⊢
  have hl : lv_has ls 2 [(0, .ref a), (1, .int x)] := hl
  refine lv_iload_n hx hb dG_advance_0 rfl (lv_at hl 1 rfl) ?_
  refine lv_aload_n hx hb dG_advance_1 rfl (lv_at hl 0 rfl) ?_
  refine va_get (D := (dC, dI)) (ci := 2) (v := .int en) (C := RG) (T := TG) (N := 2) hx hb hts (inC inG) hown hK hP 0 rfl rfl 0 (by decide) (hq _ wi_77) (fun _ h9 => h9) rfl dG_advance_2 ?_
  refine lv_icmp_gt (tgt := 10) hx hb dG_advance_5 (by decide) (fun c_1 => ?_) (fun c_1 => ?_)
  · refine lv_aload_n hx hb dG_advance_10 rfl (lv_at hl 0 rfl) ?_
    refine lv_iload_n hx hb dG_advance_11 rfl (lv_at hl 1 rfl) ?_
    refine va_put (D := (dC, dI)) (ci := 2) (v := .int x) (ty := .int) (C := RG) (T := TG) (N := 2) hx hb hts (inC inG) tyG tyG_ok nmG hown hK hP hD hS 0 rfl rfl 0 (by decide) (hq _ wi_77) (fun _ h9 => h9) rfl (by decide +kernel) rfl rfl (Nat.le_of_ble_eq_true rfl) dG_advance_12 (fun H locs hP hD hS => ?_)
    have hP : va_P (dC, dI) clB [(a, .inr (2, [.int x, .int fl]))] H := hP
    have hD : va_D A [(a, .inr (2, [.int x, .int fl]))] := hD
    refine lv_iconst (v := 1) hx hb dG_advance_15 (by decide) ?_
    exact W.zret (v := 1) (ty := .boolean) hx hb hr rfl (fun t ht hW => ⟨⟨1, (), rfl, (by simp [c_1]), by show va_P _ _ _ t.heap; rw [ht]; exact (by simpa [c_1] using hP)⟩, hS.F ht⟩) hS.2.2 dG_advance_16
  · refine lv_iconst (v := 0) hx hb dG_advance_8 (by decide) ?_
    exact W.zret (v := 0) (ty := .boolean) hx hb hr rfl (fun t ht hW => ⟨⟨0, (), rfl, (by simp [c_1]), by show va_P _ _ _ t.heap; rw [ht]; exact (by simpa [c_1] using hP)⟩, hS.F ht⟩) hS.2.2 dG_advance_9

set_option maxHeartbeats 4000000 in
set_option maxRecDepth 100000 in
theorem c_G_reach (l : Launch) (dC : Nat → ClassId) (dI : Nat → Nat → Nat) (ka : Nat → ClassId) (sz : Nat) (a : Nat) (en fl x : Int32) : Met l yG_reach wG_reach ({ frames := 1, cells := 0, slots := 0, locals := 21 }) (va_Pc [.ref a, .int x] (fun U => U.heap.size = sz ∧ tk_E dC dI ka U ∧ va_P (dC, dI) clB [(a, .inr (2, [.int en, .int fl]))] U.heap ∧ va_D (fun _ => True) [(a, .inr (2, [.int en, .int fl]))])) (va_Qv (fun _ : Unit => True) (fun _ t => va_P (dC, dI) clB [(a, .inr (2, [.int (if en < x then x else en), .int (if en < x then fl + 1 else fl)]))] t.heap) (va_A [(a, .inr (2, [.int en, .int fl]))] sz)) 0 0 (va_A [(a, .inr (2, [.int en, .int fl]))] sz) := by
  refine Met.ofW (cc := cG_reach) (maxL := 2) (ret := none) (by decide) rfl ?_
  intro p e s m args below meth c s₁ B hml hv
  obtain ⟨rfl, hsz, hE, hP, hD0⟩ := hv
  have hx := B.exec
  have hb := B.bytes
  have hr := B.returns
  have hts := atoms_spec (ws := wG_reach) B.pre
  have hq : ∀ w ∈ lwg, w.before _ s = true := fun w h => hts w (List.mem_cons_of_mem _ h)
  have hown : s.vm.findClass RG = some m.cls := findClass_of_methodNamed B.named
  have hlocks := B.notSynchronized
  have hK := hE.1
  have hN := hE.2
  subst hsz
  have hD := hD0.self (sz := s.heap.size)
  generalize hAe : va_A [(a, .inr (2, [.int en, .int fl]))] s.heap.size = A at hD ⊢
  have hA : ∀ q : Nat, s.heap.size ≤ q → A q := fun q h => by rw [← hAe]; exact Or.inr h
  have hS : va_S A s.heap s.heap [] := va_S.rf
  have hP : va_P (dC, dI) clB [(a, .inr (2, [.int en, .int fl]))] s.heap := hP
  have hl := lv_entry ([.ref a, .int x]) (n := 2) (Nat.le_of_ble_eq_true rfl)
  rw [lg_entry_eq]
  generalize (lg_sl ([.ref a, .int x]) ++ List.replicate (2 - (lg_sl ([.ref a, .int x])).length) Slot.unset).toArray = ls at hl ⊢
  have hl : lv_has ls 2 [(0, .ref a), (1, .int x)] := hl
  refine lv_aload_n hx hb dG_reach_0 rfl (lv_at hl 0 rfl) ?_
  refine lv_iload_n hx hb dG_reach_1 rfl (lv_at hl 1 rfl) ?_
  have hFc := tk_free1 (k := 0) hD hS hA rfl
  refine va_calli (va_runV (As := [.int x]) (rest := []) ⟨hx, hb, hml, hown, hts⟩ (c_G_advance l dC dI ka _ a en fl x) (cwV 1 hts (tw_V wi_365 wi_173 wi_174 wi_26 wi_175) rfl rfl rfl (by decide +kernel) ⟨Nat.le_of_ble_eq_true rfl, Nat.le_of_ble_eq_true rfl⟩) ⟨fun a U g mk q => ⟨q.1, q.2.1, tk_E.call q.2.2.1, q.2.2.2⟩, va_recv hK hP (ci := 2) (q0 := 0) rfl rfl, fun U hU hW => ⟨rfl, by rw [hU], tk_E.warm hW hE, by rw [hU]; exact (tk_one hP (k := 0) rfl), tk_done⟩⟩ rfl rfl hl.1 rfl (lv_room (Nat.le_of_ble_eq_true rfl)) dG_reach_2 ⟨Nat.zero_le _, Nat.zero_le _⟩) hS (fun q _ h => hFc q h) hFc (fun r_2 u_1 t H1 locs ht hvm hw hB hz1 hk1 hS => ?_)
  have hB : va_P (dC, dI) clB [(a, .inr (2, [.int (if en < x then x else en), .int fl]))] H1 := by rw [← ht]; exact hB
  obtain ⟨hP, hD⟩ := tk_join1 (k := 0) hP hD rfl hk1 hB
  generalize H1 = H at hP hS ⊢
  have hP : va_P (dC, dI) clB [(a, .inr (2, [.int (if en < x then x else en), .int fl]))] H := hP
  have hD : va_D A [(a, .inr (2, [.int (if en < x then x else en), .int fl]))] := hD
  subst hw
  refine lv_if_eq (tgt := 18) hx hb dG_reach_5 (by decide) (fun c_3 => ?_) (fun c_3 => ?_)
  · exact W.vret hx hb hr (fun t ht hW => ⟨⟨(), rfl, trivial, by show va_P _ _ _ t.heap; rw [ht]; exact (by by_cases hz : en < x <;> simp [hz] at c_3 hP ⊢ <;> exact hP)⟩, hS.F ht⟩) hS.2.2 dG_reach_18
  · refine lv_aload_n hx hb dG_reach_8 rfl (lv_at hl 0 rfl) ?_
    refine lv_dup hx hb dG_reach_9 rfl ?_
    refine va_get (D := (dC, dI)) (ci := 2) (v := .int fl) (C := RG) (T := TG) (N := 2) hx hb hts (inC inG) hown hK hP 0 rfl rfl 1 (by decide) (hq _ wi_79) (fun _ h9 => h9) rfl dG_reach_10 ?_
    refine lv_iconst (v := 1) hx hb dG_reach_13 (by decide) ?_
    refine lv_iadd hx hb dG_reach_14 ?_
    refine va_put (D := (dC, dI)) (ci := 2) (v := .int (fl + 1)) (ty := .int) (C := RG) (T := TG) (N := 2) hx hb hts (inC inG) tyG tyG_ok nmG hown hK hP hD hS 0 rfl rfl 1 (by decide) (hq _ wi_79) (fun _ h9 => h9) rfl (by decide +kernel) rfl rfl (Nat.le_of_ble_eq_true rfl) dG_reach_15 (fun H locs hP hD hS => ?_)
    have hP : va_P (dC, dI) clB [(a, .inr (2, [.int (if en < x then x else en), .int (fl + 1)]))] H := hP
    have hD : va_D A [(a, .inr (2, [.int (if en < x then x else en), .int (fl + 1)]))] := hD
    exact W.vret hx hb hr (fun t ht hW => ⟨⟨(), rfl, trivial, by show va_P _ _ _ t.heap; rw [ht]; exact (by by_cases hz : en < x <;> simp [hz] at c_3 hP ⊢ <;> exact hP)⟩, hS.F ht⟩) hS.2.2 dG_reach_18

set_option maxHeartbeats 4000000 in
set_option maxRecDepth 100000 in
theorem c_D_byteAt (l : Launch) (dC : Nat → ClassId) (dI : Nat → Nat → Nat) (ka : Nat → ClassId) (a b : Nat) (lf wn rd : Int32) (f : Nat → Int32) (x y : Int32) (n k : Nat) (ex : x = nI n) (hn : n < 192) (ey : y = nI k) (hk : k < 512) : Met l yD_byteAt wD_byteAt ({ frames := 0, cells := 0, slots := 0, locals := 0 }) (va_Pc [.ref a, .int x, .int y] (fun U => tk_E dC dI ka U ∧ va_P (dC, dI) clB [(a, .inr (0, [.ref b, .int lf, .int wn, .int rd])), (b, .inl (ka 0, 98304, .inl f))] U.heap)) (vp_Si (fun r => r = f (n * 512 + k) &&& 255)) 0 0 (fun _ => False) := by
  refine Met.ofW (cc := cD_byteAt) (maxL := 3) (ret := (some .int)) (by decide) rfl ?_
  intro p e s m args below meth c s₁ B hml hv
  obtain ⟨rfl, hE, hP⟩ := hv
  have hx := B.exec
  have hb := B.bytes
  have hr := B.returns
  have hts := atoms_spec (ws := wD_byteAt) B.pre
  have hq : ∀ w ∈ lwg, w.before _ s = true := fun w h => hts w (List.mem_cons_of_mem _ h)
  have hown : s.vm.findClass RD = some m.cls := findClass_of_methodNamed B.named
  have hlocks := B.notSynchronized
  have hK := hE.1
  have hN := hE.2
  have hP : va_P (dC, dI) clB [(a, .inr (0, [.ref b, .int lf, .int wn, .int rd])), (b, .inl (ka 0, 98304, .inl f))] s.heap := hP
  have hl := lv_entry ([.ref a, .int x, .int y]) (n := 3) (Nat.le_of_ble_eq_true rfl)
  rw [lg_entry_eq]
  generalize (lg_sl ([.ref a, .int x, .int y]) ++ List.replicate (3 - (lg_sl ([.ref a, .int x, .int y])).length) Slot.unset).toArray = ls at hl ⊢
  have hl : lv_has ls 3 [(0, .ref a), (1, .int x), (2, .int y)] := hl
  refine lv_aload_n hx hb dD_byteAt_0 rfl (lv_at hl 0 rfl) ?_
  refine va_get (D := (dC, dI)) (ci := 0) (v := .ref b) (C := RD) (T := TD) (N := 4) hx hb hts (inC inD) hown hK hP 0 rfl rfl 0 (by decide) (hq _ wi_54) (fun _ h9 => h9) rfl dD_byteAt_1 ?_
  refine lv_iload_n hx hb dD_byteAt_4 rfl (lv_at hl 1 rfl) ?_
  refine lv_sipush (v := 512) hx hb dD_byteAt_5 (by decide) ?_
  refine lv_imul hx hb dD_byteAt_8 ?_
  refine lv_iload_n hx hb dD_byteAt_9 rfl (lv_at hl 2 rfl) ?_
  refine lv_iadd hx hb dD_byteAt_10 ?_
  refine tk_bald (n := n * 512 + k) hx hb hK hP 1 0 rfl rfl (by rw [ex, ey]; exact (congrArg (· + nI k) (pk_mul n 512)).trans (nI_add _ _)) (by omega) (by decide) dD_byteAt_11 ?_
  refine lv_sipush (v := 255) hx hb dD_byteAt_12 (by decide) ?_
  refine lv_iand hx hb dD_byteAt_15 ?_
  exact W.iret (v := ((f (n * 512 + k)) &&& 255)) hx hb hr (fun t ht hW => ⟨((f (n * 512 + k)) &&& 255), rfl, rfl, ht⟩) (fun _ h => by cases h) dD_byteAt_16

set_option maxHeartbeats 4000000 in
set_option maxRecDepth 100000 in
theorem c_D_firstStamp (l : Launch) (dC : Nat → ClassId) (dI : Nat → Nat → Nat) (ka : Nat → ClassId) (a b : Nat) (lf wn rd : Int32) (f : Nat → Int32) (x : Int32) (n : Nat) (ex : x = nI n) (hn : n < 192) : Met l yD_firstStamp wD_firstStamp ({ frames := 1, cells := 0, slots := 0, locals := 21 }) (va_Pc [.ref a, .int x] (fun U => tk_E dC dI ka U ∧ va_P (dC, dI) clB [(a, .inr (0, [.ref b, .int lf, .int wn, .int rd])), (b, .inl (ka 0, 98304, .inl f))] U.heap)) (vp_Si (fun r => r = tb2 f (n * 512))) 0 0 (fun _ => False) := by
  refine Met.ofW (cc := cD_firstStamp) (maxL := 2) (ret := (some .int)) (by decide) rfl ?_
  intro p e s m args below meth c s₁ B hml hv
  obtain ⟨rfl, hE, hP⟩ := hv
  have hx := B.exec
  have hb := B.bytes
  have hr := B.returns
  have hts := atoms_spec (ws := wD_firstStamp) B.pre
  have hq : ∀ w ∈ lwg, w.before _ s = true := fun w h => hts w (List.mem_cons_of_mem _ h)
  have hown : s.vm.findClass RD = some m.cls := findClass_of_methodNamed B.named
  have hlocks := B.notSynchronized
  have hK := hE.1
  have hN := hE.2
  have hP : va_P (dC, dI) clB [(a, .inr (0, [.ref b, .int lf, .int wn, .int rd])), (b, .inl (ka 0, 98304, .inl f))] s.heap := hP
  have hl := lv_entry ([.ref a, .int x]) (n := 2) (Nat.le_of_ble_eq_true rfl)
  rw [lg_entry_eq]
  generalize (lg_sl ([.ref a, .int x]) ++ List.replicate (2 - (lg_sl ([.ref a, .int x])).length) Slot.unset).toArray = ls at hl ⊢
  have hl : lv_has ls 2 [(0, .ref a), (1, .int x)] := hl
  refine lv_aload_n hx hb dD_firstStamp_0 rfl (lv_at hl 0 rfl) ?_
  refine va_get (D := (dC, dI)) (ci := 0) (v := .ref b) (C := RD) (T := TD) (N := 4) hx hb hts (inC inD) hown hK hP 0 rfl rfl 0 (by decide) (hq _ wi_54) (fun _ h9 => h9) rfl dD_firstStamp_1 ?_
  refine lv_iload_n hx hb dD_firstStamp_4 rfl (lv_at hl 1 rfl) ?_
  refine lv_sipush (v := 512) hx hb dD_firstStamp_5 (by decide) ?_
  refine lv_imul hx hb dD_firstStamp_8 ?_
  refine lv_iconst (v := 0) hx hb dD_firstStamp_9 (by decide) ?_
  refine lv_iadd hx hb dD_firstStamp_10 ?_
  refine vp_callSi (va_Run.run (va_runSN (As := [.ref b, .int ((x * 512) + 0)]) (rest := []) ⟨hx, hb, hml, hown, hts⟩ (c_B_twoBytes l dC dI ka b 98304 f ((x * 512) + 0) (n * 512) (by rw [ex]; exact (congrArg (· + (0 : Int32)) (pk_mul n 512)).trans (by rw [Int32.add_zero])) (by omega) (by decide)) ⟨va_cnB 2 hts (tw_I wi_163) rfl rfl rfl (hN _ ns_14) (hq _ wi_24) (by decide +kernel) ⟨Nat.le_of_ble_eq_true rfl, Nat.le_of_ble_eq_true rfl⟩, hq _ wi_162, trivial⟩ ⟨fun a U g mk q => ⟨q.1, tk_E.call q.2.1, q.2.2⟩, fun U hU hW => ⟨rfl, tk_E.warm hW hE, by rw [hU]; exact (tk_one hP (k := 1) rfl)⟩⟩ rfl rfl hl.1 rfl (lv_room (Nat.le_of_ble_eq_true rfl)) dD_firstStamp_11 ⟨Nat.zero_le _, Nat.zero_le _⟩)) (fun r_1 er_1 => ?_)
  subst er_1
  exact W.iret (v := (tb2 f (n * 512))) hx hb hr (fun t ht hW => ⟨(tb2 f (n * 512)), rfl, rfl, ht⟩) (fun _ h => by cases h) dD_firstStamp_14

set_option maxHeartbeats 4000000 in
set_option maxRecDepth 100000 in
theorem c_D_isTorn (l : Launch) (dC : Nat → ClassId) (dI : Nat → Nat → Nat) (ka : Nat → ClassId) (a b : Nat) (lf wn rd : Int32) (f : Nat → Int32) (x : Int32) (n : Nat) (ex : x = nI n) (hn : n < 192) : Met l yD_isTorn wD_isTorn ({ frames := 2, cells := 0, slots := 0, locals := 42 }) (va_Pc [.ref a, .int x] (fun U => tk_E dC dI ka U ∧ va_P (dC, dI) clB [(a, .inr (0, [.ref b, .int lf, .int wn, .int rd])), (b, .inl (ka 0, 98304, .inl f))] U.heap)) (vp_Si (fun r => r = if tb2 f (n * 512) = tb2 f (n * 512 + 510) then 0 else 1)) 0 0 (fun _ => False) := by
  refine Met.ofW (cc := cD_isTorn) (maxL := 2) (ret := (some .boolean)) (by decide) rfl ?_
  intro p e s m args below meth c s₁ B hml hv
  obtain ⟨rfl, hE, hP⟩ := hv
  have hx := B.exec
  have hb := B.bytes
  have hr := B.returns
  have hts := atoms_spec (ws := wD_isTorn) B.pre
  have hq : ∀ w ∈ lwg, w.before _ s = true := fun w h => hts w (List.mem_cons_of_mem _ h)
  have hown : s.vm.findClass RD = some m.cls := findClass_of_methodNamed B.named
  have hlocks := B.notSynchronized
  have hK := hE.1
  have hN := hE.2
  have hP : va_P (dC, dI) clB [(a, .inr (0, [.ref b, .int lf, .int wn, .int rd])), (b, .inl (ka 0, 98304, .inl f))] s.heap := hP
  have hl := lv_entry ([.ref a, .int x]) (n := 2) (Nat.le_of_ble_eq_true rfl)
  rw [lg_entry_eq]
  generalize (lg_sl ([.ref a, .int x]) ++ List.replicate (2 - (lg_sl ([.ref a, .int x])).length) Slot.unset).toArray = ls at hl ⊢
  have hl : lv_has ls 2 [(0, .ref a), (1, .int x)] := hl
  refine lv_aload_n hx hb dD_isTorn_0 rfl (lv_at hl 0 rfl) ?_
  refine lv_iload_n hx hb dD_isTorn_1 rfl (lv_at hl 1 rfl) ?_
  refine vp_callSi (va_Run.run (va_runV (As := [.int x]) (rest := []) ⟨hx, hb, hml, hown, hts⟩ (c_D_firstStamp l dC dI ka a b lf wn rd f x n ex hn) (cwV 1 hts (tw_V wi_199 wi_200 wi_201 wi_25 wi_202) rfl rfl rfl (by decide +kernel) ⟨Nat.le_of_ble_eq_true rfl, Nat.le_of_ble_eq_true rfl⟩) ⟨fun a U g mk q => ⟨q.1, tk_E.call q.2.1, q.2.2⟩, va_recv hK hP (ci := 0) (q0 := 0) rfl rfl, fun U hU hW => ⟨rfl, tk_E.warm hW hE, by rw [hU]; exact (tk_two hP (k := 0) (k' := 1) rfl rfl)⟩⟩ rfl rfl hl.1 rfl (lv_room (Nat.le_of_ble_eq_true rfl)) dD_isTorn_2 ⟨Nat.zero_le _, Nat.zero_le _⟩)) (fun r_1 er_1 => ?_)
  subst er_1
  refine lv_aload_n hx hb dD_isTorn_5 rfl (lv_at hl 0 rfl) ?_
  refine va_get (D := (dC, dI)) (ci := 0) (v := .ref b) (C := RD) (T := TD) (N := 4) hx hb hts (inC inD) hown hK hP 0 rfl rfl 0 (by decide) (hq _ wi_54) (fun _ h9 => h9) rfl dD_isTorn_6 ?_
  refine lv_iload_n hx hb dD_isTorn_9 rfl (lv_at hl 1 rfl) ?_
  refine lv_sipush (v := 512) hx hb dD_isTorn_10 (by decide) ?_
  refine lv_imul hx hb dD_isTorn_13 ?_
  refine lv_sipush (v := 510) hx hb dD_isTorn_14 (by decide) ?_
  refine lv_iadd hx hb dD_isTorn_17 ?_
  refine vp_callSi (va_Run.run (va_runSN (As := [.ref b, .int ((x * 512) + 510)]) (rest := [.int (tb2 f (n * 512))]) ⟨hx, hb, hml, hown, hts⟩ (c_B_twoBytes l dC dI ka b 98304 f ((x * 512) + 510) (n * 512 + 510) (by rw [ex]; exact (congrArg (· + (510 : Int32)) (pk_mul n 512)).trans (nI_add _ 510)) (by omega) (by decide)) ⟨va_cnB 2 hts (tw_I wi_163) rfl rfl rfl (hN _ ns_14) (hq _ wi_24) (by decide +kernel) ⟨Nat.le_of_ble_eq_true rfl, Nat.le_of_ble_eq_true rfl⟩, hq _ wi_162, trivial⟩ ⟨fun a U g mk q => ⟨q.1, tk_E.call q.2.1, q.2.2⟩, fun U hU hW => ⟨rfl, tk_E.warm hW hE, by rw [hU]; exact (tk_one hP (k := 1) rfl)⟩⟩ rfl rfl hl.1 rfl (lv_room (Nat.le_of_ble_eq_true rfl)) dD_isTorn_18 ⟨Nat.zero_le _, Nat.zero_le _⟩)) (fun r_2 er_2 => ?_)
  subst er_2
  refine lv_icmp_eq (tgt := 28) hx hb dD_isTorn_21 (by decide) (fun c_3 => ?_) (fun c_3 => ?_)
  · refine lv_iconst (v := 0) hx hb dD_isTorn_28 (by decide) ?_
    exact W.zret (v := 0) (ty := .boolean) hx hb hr rfl (fun t ht hW => ⟨0, rfl, (by simp [c_3]), ht⟩) (fun _ h => by cases h) dD_isTorn_29
  · refine lv_iconst (v := 1) hx hb dD_isTorn_24 (by decide) ?_
    refine lv_goto (tgt := 29) hx hb dD_isTorn_25 (by decide) ?_
    exact W.zret (v := 1) (ty := .boolean) hx hb hr rfl (fun t ht hW => ⟨1, rfl, (by simp [c_3]), ht⟩) (fun _ h => by cases h) dD_isTorn_29
end
section
set_option maxHeartbeats 4000000 in
set_option maxRecDepth 100000 in
theorem c_D_readPage (l : Launch) (dC : Nat → ClassId) (dI : Nat → Nat → Nat) (ka : Nat → ClassId) (sz : Nat) (a b tb : Nat) (lf wn rd : Int32) (f g : Nat → Int32) (x : Int32) (n : Nat) (ex : x = nI n) (hn : n < 192) (hF : sb_Fit f) : Met l yD_readPage wD_readPage ({ frames := 1, cells := 0, slots := 0, locals := 60 }) (va_Pc [.ref a, .int x, .ref tb] (fun U => U.heap.size = sz ∧ tk_E dC dI ka U ∧ va_P (dC, dI) clB [(a, .inr (0, [.ref b, .int lf, .int wn, .int rd])), (b, .inl (ka 0, 98304, .inl f)), (tb, .inl (ka 0, 512, .inl g))] U.heap ∧ va_D (fun _ => True) [(a, .inr (0, [.ref b, .int lf, .int wn, .int rd])), (b, .inl (ka 0, 98304, .inl f)), (tb, .inl (ka 0, 512, .inl g))])) (va_Qv (fun _ : Unit => True) (fun _ t => va_P (dC, dI) clB [(a, .inr (0, [.ref b, .int lf, .int wn, .int (rd + 1)])), (b, .inl (ka 0, 98304, .inl f)), (tb, .inl (ka 0, 512, .inl (va_cpy f g (n * 512) 0 512)))] t.heap) (va_A [(a, .inr (0, [.ref b, .int lf, .int wn, .int rd])), (b, .inl (ka 0, 98304, .inl f)), (tb, .inl (ka 0, 512, .inl g))] sz)) 0 0 (va_A [(a, .inr (0, [.ref b, .int lf, .int wn, .int rd])), (b, .inl (ka 0, 98304, .inl f)), (tb, .inl (ka 0, 512, .inl g))] sz) := by
  refine Met.ofW (cc := cD_readPage) (maxL := 3) (ret := none) (by decide) rfl ?_
  intro p e s m args below meth c s₁ B hml hv
  obtain ⟨rfl, hsz, hE, hP, hD0⟩ := hv
  have hx := B.exec
  have hb := B.bytes
  have hr := B.returns
  have hts := atoms_spec (ws := wD_readPage) B.pre
  have hq : ∀ w ∈ lwg, w.before _ s = true := fun w h => hts w (List.mem_cons_of_mem _ h)
  have hown : s.vm.findClass RD = some m.cls := findClass_of_methodNamed B.named
  have hlocks := B.notSynchronized
  have hK := hE.1
  have hN := hE.2
  subst hsz
  have hD := hD0.self (sz := s.heap.size)
  generalize hAe : va_A [(a, .inr (0, [.ref b, .int lf, .int wn, .int rd])), (b, .inl (ka 0, 98304, .inl f)), (tb, .inl (ka 0, 512, .inl g))] s.heap.size = A at hD ⊢
  have hA : ∀ q : Nat, s.heap.size ≤ q → A q := fun q h => by rw [← hAe]; exact Or.inr h
  have hS : va_S A s.heap s.heap [] := va_S.rf
  have hP : va_P (dC, dI) clB [(a, .inr (0, [.ref b, .int lf, .int wn, .int rd])), (b, .inl (ka 0, 98304, .inl f)), (tb, .inl (ka 0, 512, .inl g))] s.heap := hP
  have hl := lv_entry ([.ref a, .int x, .ref tb]) (n := 3) (Nat.le_of_ble_eq_true rfl)
  rw [lg_entry_eq]
  generalize (lg_sl ([.ref a, .int x, .ref tb]) ++ List.replicate (3 - (lg_sl ([.ref a, .int x, .ref tb])).length) Slot.unset).toArray = ls at hl ⊢
  have hl : lv_has ls 3 [(0, .ref a), (1, .int x), (2, .ref tb)] := hl
  refine lv_aload_n hx hb dD_readPage_0 rfl (lv_at hl 0 rfl) ?_
  refine va_get (D := (dC, dI)) (ci := 0) (v := .ref b) (C := RD) (T := TD) (N := 4) hx hb hts (inC inD) hown hK hP 0 rfl rfl 0 (by decide) (hq _ wi_54) (fun _ h9 => h9) rfl dD_readPage_1 ?_
  refine lv_iload_n hx hb dD_readPage_4 rfl (lv_at hl 1 rfl) ?_
  refine lv_sipush (v := 512) hx hb dD_readPage_5 (by decide) ?_
  refine lv_imul hx hb dD_readPage_8 ?_
  refine lv_aload_n hx hb dD_readPage_9 rfl (lv_at hl 2 rfl) ?_
  refine lv_iconst (v := 0) hx hb dD_readPage_10 (by decide) ?_
  refine lv_sipush (v := 512) hx hb dD_readPage_11 (by decide) ?_
  refine tk_copy (sn := n * 512) (dn := 0) (nn := 512) hx hb (hml.trans hl.1.symm) hown (hq _ wi_378) (hq _ wi_380) (hq _ wi_379) (hq _ wi_36) hK hP hD hS 1 2 0 0 rfl rfl rfl rfl (by rw [ex]; exact pk_mul n 512) rfl rfl (by omega) (by decide) hF (by decide) (Nat.le_of_ble_eq_true rfl) (Nat.le_of_ble_eq_true rfl) dD_readPage_14 (fun H locs hP hD hS => ?_)
  have hP : va_P (dC, dI) clB [(a, .inr (0, [.ref b, .int lf, .int wn, .int rd])), (b, .inl (ka 0, 98304, .inl f)), (tb, .inl (ka 0, 512, .inl (va_cpy f g (n * 512) 0 512)))] H := hP
  have hD : va_D A [(a, .inr (0, [.ref b, .int lf, .int wn, .int rd])), (b, .inl (ka 0, 98304, .inl f)), (tb, .inl (ka 0, 512, .inl (va_cpy f g (n * 512) 0 512)))] := hD
  refine lv_aload_n hx hb dD_readPage_17 rfl (lv_at hl 0 rfl) ?_
  refine lv_dup hx hb dD_readPage_18 rfl ?_
  refine va_get (D := (dC, dI)) (ci := 0) (v := .int rd) (C := RD) (T := TD) (N := 4) hx hb hts (inC inD) hown hK hP 0 rfl rfl 3 (by decide) (hq _ wi_59) (fun _ h9 => h9) rfl dD_readPage_19 ?_
  refine lv_iconst (v := 1) hx hb dD_readPage_22 (by decide) ?_
  refine lv_iadd hx hb dD_readPage_23 ?_
  refine va_put (D := (dC, dI)) (ci := 0) (v := .int (rd + 1)) (ty := .int) (C := RD) (T := TD) (N := 4) hx hb hts (inC inD) tyD tyD_ok nmD hown hK hP hD hS 0 rfl rfl 3 (by decide) (hq _ wi_59) (fun _ h9 => h9) rfl (by decide +kernel) rfl rfl (Nat.le_of_ble_eq_true rfl) dD_readPage_24 (fun H locs hP hD hS => ?_)
  have hP : va_P (dC, dI) clB [(a, .inr (0, [.ref b, .int lf, .int wn, .int (rd + 1)])), (b, .inl (ka 0, 98304, .inl f)), (tb, .inl (ka 0, 512, .inl (va_cpy f g (n * 512) 0 512)))] H := hP
  have hD : va_D A [(a, .inr (0, [.ref b, .int lf, .int wn, .int (rd + 1)])), (b, .inl (ka 0, 98304, .inl f)), (tb, .inl (ka 0, 512, .inl (va_cpy f g (n * 512) 0 512)))] := hD
  exact W.vret hx hb hr (fun t ht hW => ⟨⟨(), rfl, trivial, by show va_P _ _ _ t.heap; rw [ht]; exact hP⟩, hS.F ht⟩) hS.2.2 dD_readPage_27

set_option maxHeartbeats 4000000 in
set_option maxRecDepth 100000 in
theorem c_D_writeSector (l : Launch) (dC : Nat → ClassId) (dI : Nat → Nat → Nat) (ka : Nat → ClassId) (sz : Nat) (a b tb : Nat) (lf wn rd : Int32) (f g : Nat → Int32) (x y : Int32) (n k : Nat) (ex : x = nI n) (hn : n < 192) (ey : y = nI k) (hk : k < 8) (hG : sb_Fit g) : Met l yD_writeSector wD_writeSector ({ frames := 1, cells := 0, slots := 0, locals := 60 }) (va_Pc [.ref a, .int x, .int y, .ref tb] (fun U => U.heap.size = sz ∧ tk_E dC dI ka U ∧ va_P (dC, dI) clB [(a, .inr (0, [.ref b, .int lf, .int wn, .int rd])), (b, .inl (ka 0, 98304, .inl f)), (tb, .inl (ka 0, 512, .inl g))] U.heap ∧ va_D (fun _ => True) [(a, .inr (0, [.ref b, .int lf, .int wn, .int rd])), (b, .inl (ka 0, 98304, .inl f)), (tb, .inl (ka 0, 512, .inl g))])) (va_Qi (fun (r : Int32) (_ : Unit) => r = if lf = 0 then 0 else 1) (fun _ t => va_P (dC, dI) clB [(a, .inr (0, [.ref b, .int (if lf = 0 then lf else if lf = -1 then lf else lf - 1), .int (if lf = 0 then wn else wn + 1), .int rd])), (b, .inl (ka 0, 98304, .inl (if lf = 0 then f else va_cpy g f (k * 64) (n * 512 + k * 64) 64))), (tb, .inl (ka 0, 512, .inl g))] t.heap) (va_A [(a, .inr (0, [.ref b, .int lf, .int wn, .int rd])), (b, .inl (ka 0, 98304, .inl f)), (tb, .inl (ka 0, 512, .inl g))] sz)) 0 0 (va_A [(a, .inr (0, [.ref b, .int lf, .int wn, .int rd])), (b, .inl (ka 0, 98304, .inl f)), (tb, .inl (ka 0, 512, .inl g))] sz) := by
  refine Met.ofW (cc := cD_writeSector) (maxL := 5) (ret := (some .boolean)) (by decide) rfl ?_
  intro p e s m args below meth c s₁ B hml hv
  obtain ⟨rfl, hsz, hE, hP, hD0⟩ := hv
  have hx := B.exec
  have hb := B.bytes
  have hr := B.returns
  have hts := atoms_spec (ws := wD_writeSector) B.pre
  have hq : ∀ w ∈ lwg, w.before _ s = true := fun w h => hts w (List.mem_cons_of_mem _ h)
  have hown : s.vm.findClass RD = some m.cls := findClass_of_methodNamed B.named
  have hlocks := B.notSynchronized
  have hK := hE.1
  have hN := hE.2
  subst hsz
  have hD := hD0.self (sz := s.heap.size)
  generalize hAe : va_A [(a, .inr (0, [.ref b, .int lf, .int wn, .int rd])), (b, .inl (ka 0, 98304, .inl f)), (tb, .inl (ka 0, 512, .inl g))] s.heap.size = A at hD ⊢
  have hA : ∀ q : Nat, s.heap.size ≤ q → A q := fun q h => by rw [← hAe]; exact Or.inr h
  have hS : va_S A s.heap s.heap [] := va_S.rf
  have hP : va_P (dC, dI) clB [(a, .inr (0, [.ref b, .int lf, .int wn, .int rd])), (b, .inl (ka 0, 98304, .inl f)), (tb, .inl (ka 0, 512, .inl g))] s.heap := hP
  have hl := lv_entry ([.ref a, .int x, .int y, .ref tb]) (n := 5) (Nat.le_of_ble_eq_true rfl)
  rw [lg_entry_eq]
  generalize (lg_sl ([.ref a, .int x, .int y, .ref tb]) ++ List.replicate (5 - (lg_sl ([.ref a, .int x, .int y, .ref tb])).length) Slot.unset).toArray = ls at hl ⊢
  have hl : lv_has ls 5 [(0, .ref a), (1, .int x), (2, .int y), (3, .ref tb)] := hl
  refine lv_aload_n hx hb dD_writeSector_0 rfl (lv_at hl 0 rfl) ?_
  refine va_get (D := (dC, dI)) (ci := 0) (v := .int lf) (C := RD) (T := TD) (N := 4) hx hb hts (inC inD) hown hK hP 0 rfl rfl 1 (by decide) (hq _ wi_55) (fun _ h9 => h9) rfl dD_writeSector_1 ?_
  refine lv_if_ne (tgt := 9) hx hb dD_writeSector_4 (by decide) (fun c_1 => ?_) (fun c_1 => ?_)
  · refine lv_aload_n hx hb dD_writeSector_9 rfl (lv_at hl 0 rfl) ?_
    refine va_get (D := (dC, dI)) (ci := 0) (v := .int lf) (C := RD) (T := TD) (N := 4) hx hb hts (inC inD) hown hK hP 0 rfl rfl 1 (by decide) (hq _ wi_55) (fun _ h9 => h9) rfl dD_writeSector_10 ?_
    refine lv_iconst (v := (-1)) hx hb dD_writeSector_13 (by decide) ?_
    refine lv_icmp_eq (tgt := 27) hx hb dD_writeSector_14 (by decide) (fun c_2 => ?_) (fun c_2 => ?_)
    · refine lv_iload_n hx hb dD_writeSector_27 rfl (lv_at hl 2 rfl) ?_
      refine lv_bipush (v := 64) hx hb dD_writeSector_28 (by decide) ?_
      refine lv_imul hx hb dD_writeSector_30 ?_
      refine lv_istore (lv' := [(4, .int (y * 64)), (0, .ref a), (1, .int x), (2, .int y), (3, .ref tb)]) hx hb dD_writeSector_31 hl (by decide) rfl (fun ls hl => ?_)
      refine lv_aload_n hx hb dD_writeSector_33 rfl (lv_at hl 4 rfl) ?_
      refine lv_iload hx hb dD_writeSector_34 (lv_at hl 0 rfl) ?_
      refine lv_aload_n hx hb dD_writeSector_36 rfl (lv_at hl 1 rfl) ?_
      refine va_get (D := (dC, dI)) (ci := 0) (v := .ref b) (C := RD) (T := TD) (N := 4) hx hb hts (inC inD) hown hK hP 0 rfl rfl 0 (by decide) (hq _ wi_54) (fun _ h9 => h9) rfl dD_writeSector_37 ?_
      refine lv_iload_n hx hb dD_writeSector_40 rfl (lv_at hl 2 rfl) ?_
      refine lv_sipush (v := 512) hx hb dD_writeSector_41 (by decide) ?_
      refine lv_imul hx hb dD_writeSector_44 ?_
      refine lv_iload hx hb dD_writeSector_45 (lv_at hl 0 rfl) ?_
      refine lv_iadd hx hb dD_writeSector_47 ?_
      refine lv_bipush (v := 64) hx hb dD_writeSector_48 (by decide) ?_
      refine tk_copy (sn := k * 64) (dn := n * 512 + k * 64) (nn := 64) hx hb (hml.trans hl.1.symm) hown (hq _ wi_378) (hq _ wi_380) (hq _ wi_379) (hq _ wi_36) hK hP hD hS 2 1 0 0 rfl rfl rfl rfl (by rw [ey]; exact pk_mul k 64) (by rw [ex, ey]; show nI n * nI 512 + nI k * nI 64 = _; rw [pk_mul, pk_mul, nI_add]) rfl (by omega) (by omega) hG (by decide) (Nat.le_of_ble_eq_true rfl) (Nat.le_of_ble_eq_true rfl) dD_writeSector_50 (fun H locs hP hD hS => ?_)
      have hP : va_P (dC, dI) clB [(a, .inr (0, [.ref b, .int lf, .int wn, .int rd])), (b, .inl (ka 0, 98304, .inl (va_cpy g f (k * 64) (n * 512 + k * 64) 64))), (tb, .inl (ka 0, 512, .inl g))] H := hP
      have hD : va_D A [(a, .inr (0, [.ref b, .int lf, .int wn, .int rd])), (b, .inl (ka 0, 98304, .inl (va_cpy g f (k * 64) (n * 512 + k * 64) 64))), (tb, .inl (ka 0, 512, .inl g))] := hD
      refine lv_aload_n hx hb dD_writeSector_53 rfl (lv_at hl 1 rfl) ?_
      refine lv_dup hx hb dD_writeSector_54 rfl ?_
      refine va_get (D := (dC, dI)) (ci := 0) (v := .int wn) (C := RD) (T := TD) (N := 4) hx hb hts (inC inD) hown hK hP 0 rfl rfl 2 (by decide) (hq _ wi_57) (fun _ h9 => h9) rfl dD_writeSector_55 ?_
      refine lv_iconst (v := 1) hx hb dD_writeSector_58 (by decide) ?_
      refine lv_iadd hx hb dD_writeSector_59 ?_
      refine va_put (D := (dC, dI)) (ci := 0) (v := .int (wn + 1)) (ty := .int) (C := RD) (T := TD) (N := 4) hx hb hts (inC inD) tyD tyD_ok nmD hown hK hP hD hS 0 rfl rfl 2 (by decide) (hq _ wi_57) (fun _ h9 => h9) rfl (by decide +kernel) rfl rfl (Nat.le_of_ble_eq_true rfl) dD_writeSector_60 (fun H locs hP hD hS => ?_)
      have hP : va_P (dC, dI) clB [(a, .inr (0, [.ref b, .int lf, .int (wn + 1), .int rd])), (b, .inl (ka 0, 98304, .inl (va_cpy g f (k * 64) (n * 512 + k * 64) 64))), (tb, .inl (ka 0, 512, .inl g))] H := hP
      have hD : va_D A [(a, .inr (0, [.ref b, .int lf, .int (wn + 1), .int rd])), (b, .inl (ka 0, 98304, .inl (va_cpy g f (k * 64) (n * 512 + k * 64) 64))), (tb, .inl (ka 0, 512, .inl g))] := hD
      refine lv_iconst (v := 1) hx hb dD_writeSector_63 (by decide) ?_
      exact W.zret (v := 1) (ty := .boolean) hx hb hr rfl (fun t ht hW => ⟨⟨1, (), rfl, (by simp [c_1, c_2]), by show va_P _ _ _ t.heap; rw [ht]; exact (by simpa [c_1, c_2] using hP)⟩, hS.F ht⟩) hS.2.2 dD_writeSector_64
    · refine lv_aload_n hx hb dD_writeSector_17 rfl (lv_at hl 0 rfl) ?_
      refine lv_dup hx hb dD_writeSector_18 rfl ?_
      refine va_get (D := (dC, dI)) (ci := 0) (v := .int lf) (C := RD) (T := TD) (N := 4) hx hb hts (inC inD) hown hK hP 0 rfl rfl 1 (by decide) (hq _ wi_55) (fun _ h9 => h9) rfl dD_writeSector_19 ?_
      refine lv_iconst (v := 1) hx hb dD_writeSector_22 (by decide) ?_
      refine lv_isub hx hb dD_writeSector_23 ?_
      refine va_put (D := (dC, dI)) (ci := 0) (v := .int (lf - 1)) (ty := .int) (C := RD) (T := TD) (N := 4) hx hb hts (inC inD) tyD tyD_ok nmD hown hK hP hD hS 0 rfl rfl 1 (by decide) (hq _ wi_55) (fun _ h9 => h9) rfl (by decide +kernel) rfl rfl (Nat.le_of_ble_eq_true rfl) dD_writeSector_24 (fun H locs hP hD hS => ?_)
      have hP : va_P (dC, dI) clB [(a, .inr (0, [.ref b, .int (lf - 1), .int wn, .int rd])), (b, .inl (ka 0, 98304, .inl f)), (tb, .inl (ka 0, 512, .inl g))] H := hP
      have hD : va_D A [(a, .inr (0, [.ref b, .int (lf - 1), .int wn, .int rd])), (b, .inl (ka 0, 98304, .inl f)), (tb, .inl (ka 0, 512, .inl g))] := hD
      refine lv_iload_n hx hb dD_writeSector_27 rfl (lv_at hl 2 rfl) ?_
      refine lv_bipush (v := 64) hx hb dD_writeSector_28 (by decide) ?_
      refine lv_imul hx hb dD_writeSector_30 ?_
      refine lv_istore (lv' := [(4, .int (y * 64)), (0, .ref a), (1, .int x), (2, .int y), (3, .ref tb)]) hx hb dD_writeSector_31 hl (by decide) rfl (fun ls hl => ?_)
      refine lv_aload_n hx hb dD_writeSector_33 rfl (lv_at hl 4 rfl) ?_
      refine lv_iload hx hb dD_writeSector_34 (lv_at hl 0 rfl) ?_
      refine lv_aload_n hx hb dD_writeSector_36 rfl (lv_at hl 1 rfl) ?_
      refine va_get (D := (dC, dI)) (ci := 0) (v := .ref b) (C := RD) (T := TD) (N := 4) hx hb hts (inC inD) hown hK hP 0 rfl rfl 0 (by decide) (hq _ wi_54) (fun _ h9 => h9) rfl dD_writeSector_37 ?_
      refine lv_iload_n hx hb dD_writeSector_40 rfl (lv_at hl 2 rfl) ?_
      refine lv_sipush (v := 512) hx hb dD_writeSector_41 (by decide) ?_
      refine lv_imul hx hb dD_writeSector_44 ?_
      refine lv_iload hx hb dD_writeSector_45 (lv_at hl 0 rfl) ?_
      refine lv_iadd hx hb dD_writeSector_47 ?_
      refine lv_bipush (v := 64) hx hb dD_writeSector_48 (by decide) ?_
      refine tk_copy (sn := k * 64) (dn := n * 512 + k * 64) (nn := 64) hx hb (hml.trans hl.1.symm) hown (hq _ wi_378) (hq _ wi_380) (hq _ wi_379) (hq _ wi_36) hK hP hD hS 2 1 0 0 rfl rfl rfl rfl (by rw [ey]; exact pk_mul k 64) (by rw [ex, ey]; show nI n * nI 512 + nI k * nI 64 = _; rw [pk_mul, pk_mul, nI_add]) rfl (by omega) (by omega) hG (by decide) (Nat.le_of_ble_eq_true rfl) (Nat.le_of_ble_eq_true rfl) dD_writeSector_50 (fun H locs hP hD hS => ?_)
      have hP : va_P (dC, dI) clB [(a, .inr (0, [.ref b, .int (lf - 1), .int wn, .int rd])), (b, .inl (ka 0, 98304, .inl (va_cpy g f (k * 64) (n * 512 + k * 64) 64))), (tb, .inl (ka 0, 512, .inl g))] H := hP
      have hD : va_D A [(a, .inr (0, [.ref b, .int (lf - 1), .int wn, .int rd])), (b, .inl (ka 0, 98304, .inl (va_cpy g f (k * 64) (n * 512 + k * 64) 64))), (tb, .inl (ka 0, 512, .inl g))] := hD
      refine lv_aload_n hx hb dD_writeSector_53 rfl (lv_at hl 1 rfl) ?_
      refine lv_dup hx hb dD_writeSector_54 rfl ?_
      refine va_get (D := (dC, dI)) (ci := 0) (v := .int wn) (C := RD) (T := TD) (N := 4) hx hb hts (inC inD) hown hK hP 0 rfl rfl 2 (by decide) (hq _ wi_57) (fun _ h9 => h9) rfl dD_writeSector_55 ?_
      refine lv_iconst (v := 1) hx hb dD_writeSector_58 (by decide) ?_
      refine lv_iadd hx hb dD_writeSector_59 ?_
      refine va_put (D := (dC, dI)) (ci := 0) (v := .int (wn + 1)) (ty := .int) (C := RD) (T := TD) (N := 4) hx hb hts (inC inD) tyD tyD_ok nmD hown hK hP hD hS 0 rfl rfl 2 (by decide) (hq _ wi_57) (fun _ h9 => h9) rfl (by decide +kernel) rfl rfl (Nat.le_of_ble_eq_true rfl) dD_writeSector_60 (fun H locs hP hD hS => ?_)
      have hP : va_P (dC, dI) clB [(a, .inr (0, [.ref b, .int (lf - 1), .int (wn + 1), .int rd])), (b, .inl (ka 0, 98304, .inl (va_cpy g f (k * 64) (n * 512 + k * 64) 64))), (tb, .inl (ka 0, 512, .inl g))] H := hP
      have hD : va_D A [(a, .inr (0, [.ref b, .int (lf - 1), .int (wn + 1), .int rd])), (b, .inl (ka 0, 98304, .inl (va_cpy g f (k * 64) (n * 512 + k * 64) 64))), (tb, .inl (ka 0, 512, .inl g))] := hD
      refine lv_iconst (v := 1) hx hb dD_writeSector_63 (by decide) ?_
      exact W.zret (v := 1) (ty := .boolean) hx hb hr rfl (fun t ht hW => ⟨⟨1, (), rfl, (by simp [c_1, c_2]), by show va_P _ _ _ t.heap; rw [ht]; exact (by simpa [c_1, c_2] using hP)⟩, hS.F ht⟩) hS.2.2 dD_writeSector_64
  · refine lv_iconst (v := 0) hx hb dD_writeSector_7 (by decide) ?_
    exact W.zret (v := 0) (ty := .boolean) hx hb hr rfl (fun t ht hW => ⟨⟨0, (), rfl, (by simp [c_1]), by show va_P _ _ _ t.heap; rw [ht]; exact (by simpa [c_1] using hP)⟩, hS.F ht⟩) hS.2.2 dD_writeSector_8

set_option maxHeartbeats 4000000 in
set_option maxRecDepth 100000 in
theorem c_JA_fill (l : Launch) (dC : Nat → ClassId) (dI : Nat → Nat → Nat) (ka : Nat → ClassId) (sz : Nat) (b N : Nat) (f : Nat → Int32) (v : Int32) (hv : v.toInt8.toInt32 = v) (hM : N < 2 ^ 31) : Met l yJA_fill wJA_fill ({ frames := 0, cells := 0, slots := 0, locals := 0 }) (va_Pc [.ref b, .int v] (fun U => U.heap.size = sz ∧ tk_E dC dI ka U ∧ va_P (dC, dI) clB [(b, .inl (ka 0, N, .inl f))] U.heap ∧ va_D (fun _ => True) [(b, .inl (ka 0, N, .inl f))])) (va_Qv (fun _ : Unit => True) (fun _ t => va_P (dC, dI) clB [(b, .inl (ka 0, N, .inl (fun _ => v)))] t.heap) (va_A [(b, .inl (ka 0, N, .inl f))] sz)) 0 0 (va_A [(b, .inl (ka 0, N, .inl f))] sz) := by
  refine va_MetF (cc := cJA_fill) (maxL := 4) (ret := none) (by decide +kernel) rfl ?_
  intro p e s m args below meth c s₁ B hml hv
  obtain ⟨rfl, hsz, hE, hP, hD0⟩ := hv
  have hx := B.exec
  have hb := B.bytes
  have hr := B.returns
  have hts := atoms_spec (ws := wJA_fill) B.pre
  have hq : ∀ w ∈ lwg, w.before _ s = true := fun w h => hts w (List.mem_cons_of_mem _ h)
  have hown : s.vm.findClass "java/util/Arrays" = some m.cls := findClass_of_methodNamed B.named
  have hlocks := B.notSynchronized
  have hK := hE.1
  have hN := hE.2
  subst hsz
  have hD := hD0.self (sz := s.heap.size)
  generalize hAe : va_A [(b, .inl (ka 0, N, .inl f))] s.heap.size = A at hD ⊢
  have hA : ∀ q : Nat, s.heap.size ≤ q → A q := fun q h => by rw [← hAe]; exact Or.inr h
  have hS : va_S A s.heap s.heap [] := va_S.rf
  have hP : va_P (dC, dI) clB [(b, .inl (ka 0, N, .inl f))] s.heap := hP
  have hl := lv_entry ([.ref b, .int v]) (n := 4) (Nat.le_of_ble_eq_true rfl)
  rw [lg_entry_eq]
  generalize (lg_sl ([.ref b, .int v]) ++ List.replicate (4 - (lg_sl ([.ref b, .int v])).length) Slot.unset).toArray = ls at hl ⊢
  have hl : lv_has ls 4 [(0, .ref b), (1, .int v)] := hl
  refine lv_iconst (v := 0) hx hb dJA_fill_0 (by decide) ?_
  refine lv_istore_n (lv' := [(2, .int 0), (0, .ref b), (1, .int v)]) hx hb dJA_fill_1 rfl hl (by decide) rfl (fun ls hl => ?_)
  refine lv_aload_n hx hb dJA_fill_2 rfl (lv_at hl 1 rfl) ?_
  refine va_alen (v := nI N) hx hb hK hP 0 0 rfl (ty := .byte) rfl rfl dJA_fill_3 ?_
  refine lv_istore_n (lv' := [(3, .int (nI N)), (2, .int 0), (0, .ref b), (1, .int v)]) hx hb dJA_fill_4 rfl hl (by decide) rfl (fun ls hl => ?_)
  refine tk_loop 5 (fun (n : Nat) (x : Nat) H locs ls => (x ≤ N) ∧ (n = N - x) ∧ va_P (dC, dI) clB [(b, .inl (ka 0, N, .inl (fun j => if j < x then v else f j)))] H ∧ va_D A [(b, .inl (ka 0, N, .inl (fun j => if j < x then v else f j)))] ∧ va_S A s.heap H locs ∧ lv_has ls 4 [(0, .ref b), (1, .int v), (2, .int (nI x)), (3, .int (nI N))]) ?_ N 0 ⟨Nat.zero_le _, rfl, (tk_same hP (fun j hj => by simp)), (tk_sameD hD), hS, lv_sub hl [2, 3, 1, 0] rfl⟩
  skip
  intro n x H locs ls hI ih
  obtain ⟨hi, hn, hP, hD, hS, hl⟩ := hI
  refine lv_iload_n hx hb dJA_fill_5 rfl (lv_at hl 2 rfl) ?_
  refine lv_iload_n hx hb dJA_fill_6 rfl (lv_at hl 3 rfl) ?_
  refine lv_icmp_ge (tgt := 20) hx hb dJA_fill_7 (by decide) (fun c_1 => ?_) (fun c_1 => ?_)
  · exact W.vret hx hb hr (fun t ht hW => ⟨⟨(), rfl, trivial, by show va_P _ _ _ t.heap; rw [ht]; exact (tk_same hP (fun j hj => by have := (nI_leI (a := N) (b := x) hM (by omega)).mp c_1; simp; omega))⟩, hS.F ht⟩) hS.2.2 dJA_fill_20
  · refine lv_aload_n hx hb dJA_fill_10 rfl (lv_at hl 0 rfl) ?_
    refine lv_iload_n hx hb dJA_fill_11 rfl (lv_at hl 2 rfl) ?_
    refine lv_iload_n hx hb dJA_fill_12 rfl (lv_at hl 1 rfl) ?_
    refine tk_bast (n := x) (v := v) hx hb hK hP hD hS 0 0 rfl rfl rfl (by have := mt (nI_leI (a := N) (b := x) hM (by omega)).mpr c_1; omega) (by omega) hv dJA_fill_13 (fun H locs hP hD hS => ?_)
    have hP : va_P (dC, dI) clB [(b, .inl (ka 0, N, .inl (upd (fun j => if j < x then v else f j) x v)))] H := hP
    have hD : va_D A [(b, .inl (ka 0, N, .inl (upd (fun j => if j < x then v else f j) x v)))] := hD
    refine lv_iinc (v := ((nI x) + 1)) (lv' := [(2, .int ((nI x) + 1)), (0, .ref b), (1, .int v), (3, .int (nI N))]) hx hb dJA_fill_14 hl (k := 2) rfl rfl (by decide) rfl (fun ls hl => ?_)
    refine lv_goto (tgt := 5) hx hb dJA_fill_17 (by decide) ?_
    have hlt : x < N := by have := mt (nI_leI (a := N) (b := x) hM (by omega)).mpr c_1; omega
    exact ih (n - 1) (x + 1) _ _ _ (by omega) ⟨by omega, by omega, (tk_same hP (fun j hj => by by_cases h1 : j = x <;> by_cases h2 : j < x <;> simp [upd, h1, h2] <;> omega)), (tk_sameD hD), hS, lv_sub hl [1, 2, 0, 3] (by rw [← nI_1]; rfl)⟩

set_option maxHeartbeats 4000000 in
set_option maxRecDepth 100000 in
theorem c_F_blank (l : Launch) (dC : Nat → ClassId) (dI : Nat → Nat → Nat) (ka : Nat → ClassId) (sz : Nat) (a b : Nat) (pg pn us di : Int32) (f : Nat → Int32) (x : Int32) : Met l yF_blank wF_blank ({ frames := 1, cells := 0, slots := 0, locals := 23 }) (va_Pc [.ref a, .int x] (fun U => U.heap.size = sz ∧ tk_E dC dI ka U ∧ va_P (dC, dI) clB [(a, .inr (1, [.ref b, .int pg, .int pn, .int us, .int di])), (b, .inl (ka 0, 512, .inl f))] U.heap ∧ va_D (fun _ => True) [(a, .inr (1, [.ref b, .int pg, .int pn, .int us, .int di])), (b, .inl (ka 0, 512, .inl f))])) (va_Qv (fun _ : Unit => True) (fun _ t => va_P (dC, dI) clB [(a, .inr (1, [.ref b, .int pg, .int pn, .int us, .int di])), (b, .inl (ka 0, 512, .inl (psB (fun _ => 0) x)))] t.heap) (va_A [(a, .inr (1, [.ref b, .int pg, .int pn, .int us, .int di])), (b, .inl (ka 0, 512, .inl f))] sz)) 0 0 (va_A [(a, .inr (1, [.ref b, .int pg, .int pn, .int us, .int di])), (b, .inl (ka 0, 512, .inl f))] sz) := by
  refine Met.ofW (cc := cF_blank) (maxL := 2) (ret := none) (by decide) rfl ?_
  intro p e s m args below meth c s₁ B hml hv
  obtain ⟨rfl, hsz, hE, hP, hD0⟩ := hv
  have hx := B.exec
  have hb := B.bytes
  have hr := B.returns
  have hts := atoms_spec (ws := wF_blank) B.pre
  have hq : ∀ w ∈ lwg, w.before _ s = true := fun w h => hts w (List.mem_cons_of_mem _ h)
  have hown : s.vm.findClass RF = some m.cls := findClass_of_methodNamed B.named
  have hlocks := B.notSynchronized
  have hK := hE.1
  have hN := hE.2
  subst hsz
  have hD := hD0.self (sz := s.heap.size)
  generalize hAe : va_A [(a, .inr (1, [.ref b, .int pg, .int pn, .int us, .int di])), (b, .inl (ka 0, 512, .inl f))] s.heap.size = A at hD ⊢
  have hA : ∀ q : Nat, s.heap.size ≤ q → A q := fun q h => by rw [← hAe]; exact Or.inr h
  have hS : va_S A s.heap s.heap [] := va_S.rf
  have hP : va_P (dC, dI) clB [(a, .inr (1, [.ref b, .int pg, .int pn, .int us, .int di])), (b, .inl (ka 0, 512, .inl f))] s.heap := hP
  have hl := lv_entry ([.ref a, .int x]) (n := 2) (Nat.le_of_ble_eq_true rfl)
  rw [lg_entry_eq]
  generalize (lg_sl ([.ref a, .int x]) ++ List.replicate (2 - (lg_sl ([.ref a, .int x])).length) Slot.unset).toArray = ls at hl ⊢
  have hl : lv_has ls 2 [(0, .ref a), (1, .int x)] := hl
  refine lv_aload_n hx hb dF_blank_0 rfl (lv_at hl 0 rfl) ?_
  refine va_get (D := (dC, dI)) (ci := 1) (v := .ref b) (C := RF) (T := TF) (N := 5) hx hb hts (inC inF) hown hK hP 0 rfl rfl 0 (by decide) (hq _ wi_93) (fun _ h9 => h9) rfl dF_blank_1 ?_
  refine lv_iconst (v := 0) hx hb dF_blank_4 (by decide) ?_
  have hFc := tk_free1 (k := 1) hD hS hA rfl
  refine va_callv (va_runS (As := [.ref b, .int 0]) (rest := []) ⟨hx, hb, hml, hown, hts⟩ (c_JA_fill l dC dI ka _ b 512 f 0 rfl (by decide)) (va_cwS 2 hts (tw_A wi_426 wi_427 wi_38 wi_428) rfl rfl rfl (by decide +kernel) ⟨Nat.le_of_ble_eq_true rfl, Nat.le_of_ble_eq_true rfl⟩) ⟨fun a U g mk q => ⟨q.1, q.2.1, tk_E.call q.2.2.1, q.2.2.2⟩, fun U hU hW => ⟨rfl, by rw [hU], tk_E.warm hW hE, by rw [hU]; exact (tk_one hP (k := 1) rfl), tk_done⟩⟩ rfl rfl hl.1 rfl (lv_room (Nat.le_of_ble_eq_true rfl)) dF_blank_5 ⟨Nat.zero_le _, Nat.zero_le _⟩) hS (fun q _ h => hFc q h) hFc (fun u_1 t H1 locs ht hvm hw hB hz1 hk1 hS => ?_)
  have hB : va_P (dC, dI) clB [(b, .inl (ka 0, 512, .inl (fun _ => 0)))] H1 := by rw [← ht]; exact hB
  obtain ⟨hP, hD⟩ := tk_join1 (k := 1) hP hD rfl hk1 hB
  generalize H1 = H at hP hS ⊢
  have hP : va_P (dC, dI) clB [(a, .inr (1, [.ref b, .int pg, .int pn, .int us, .int di])), (b, .inl (ka 0, 512, .inl (fun _ => 0)))] H := hP
  have hD : va_D A [(a, .inr (1, [.ref b, .int pg, .int pn, .int us, .int di])), (b, .inl (ka 0, 512, .inl (fun _ => 0)))] := hD
  refine lv_aload_n hx hb dF_blank_8 rfl (lv_at hl 0 rfl) ?_
  refine lv_iload_n hx hb dF_blank_9 rfl (lv_at hl 1 rfl) ?_
  have hFc := tk_free2 (k := 0) (k' := 1) hD hS hA rfl rfl
  refine va_callv (va_runV (As := [.int x]) (rest := []) ⟨hx, hb, hml, hown, hts⟩ (c_F_putStamps l dC dI ka _ a b pg pn us di (fun _ => 0) x) (cwV 1 hts (tw_V wi_370 wi_372 wi_7 wi_27 wi_373) rfl rfl rfl (by decide +kernel) ⟨Nat.le_of_ble_eq_true rfl, Nat.le_of_ble_eq_true rfl⟩) ⟨fun a U g mk q => ⟨q.1, q.2.1, tk_E.call q.2.2.1, q.2.2.2⟩, va_recv hK hP (ci := 1) (q0 := 0) rfl rfl, fun U hU hW => ⟨rfl, by rw [hU], tk_E.warm hW hE, by rw [hU]; exact (tk_two hP (k := 0) (k' := 1) rfl rfl), (tk_dtwo hD (k := 0) (k' := 1) rfl rfl (by decide))⟩⟩ rfl rfl hl.1 rfl (lv_room (Nat.le_of_ble_eq_true rfl)) dF_blank_10 ⟨Nat.zero_le _, Nat.zero_le _⟩) hS (fun q _ h => hFc q h) hFc (fun u_3 t H1 locs ht hvm hw hB hz1 hk1 hS => ?_)
  have hB : va_P (dC, dI) clB [(a, .inr (1, [.ref b, .int pg, .int pn, .int us, .int di])), (b, .inl (ka 0, 512, .inl (psB (fun _ => 0) x)))] H1 := by rw [← ht]; exact hB
  obtain ⟨hP, hD⟩ := tk_join2 (k := 0) (k' := 1) hP hD rfl rfl (by decide) hk1 hB
  generalize H1 = H at hP hS ⊢
  have hP : va_P (dC, dI) clB [(a, .inr (1, [.ref b, .int pg, .int pn, .int us, .int di])), (b, .inl (ka 0, 512, .inl (psB (fun _ => 0) x)))] H := hP
  have hD : va_D A [(a, .inr (1, [.ref b, .int pg, .int pn, .int us, .int di])), (b, .inl (ka 0, 512, .inl (psB (fun _ => 0) x)))] := hD
  exact W.vret hx hb hr (fun t ht hW => ⟨⟨(), rfl, trivial, by show va_P _ _ _ t.heap; rw [ht]; exact hP⟩, hS.F ht⟩) hS.2.2 dF_blank_13
end
section
/-! THE DESK's WORLD: desk, drive, disk, log, frames; then twelve frames, then their bytes -/
def dw (h dr db lg fa : Nat) (fr fb : Nat → Nat) (ka : Nat → ClassId) (pg pn us di : Nat → Int32) (bt : Nat → Nat → Int32) (dk : Nat → Int32) (lf wn rd en fl hd : Int32) : va_W :=
  [(h, .inr (3, [.ref dr, .ref lg, .ref fa, .int hd])), (dr, .inr (0, [.ref db, .int lf, .int wn, .int rd])), (db, .inl (ka 0, 98304, .inl dk)), (lg, .inr (2, [.int en, .int fl])), (fa, .inl (ka 1, 12, .inr (.inr (.inr (.inr (fun i => some (fr i)))))))] ++
    (tk_row 12 fr (fun i => .inr (1, [.ref (fb i), .int (pg i), .int (pn i), .int (us i), .int (di i)])) ++ tk_row 12 fb (fun i => .inl (ka 0, 512, .inl (bt i))))
theorem upd_id (f : Nat → Int32) (i : Nat) : upd f i (f i) = f := by
  funext j
  by_cases h : j = i <;> simp [upd, h]
theorem va_up_id {α : Type} (f : Nat → α) (i : Nat) : va_up f i (f i) = f := by
  funext j
  by_cases h : j = i <;> simp [va_up, h]
section DW
variable {h dr db lg fa : Nat} {fr fb : Nat → Nat} {ka : Nat → ClassId} {pg pn us di : Nat → Int32} {bt : Nat → Nat → Int32} {dk : Nat → Int32} {lf wn rd en fl hd : Int32}
theorem dw_fr {i : Nat} (hi : i < 12) : (dw h dr db lg fa fr fb ka pg pn us di bt dk lf wn rd en fl hd)[5 + i]? = some (fr i, .inr (1, [.ref (fb i), .int (pg i), .int (pn i), .int (us i), .int (di i)])) := by
  unfold dw
  rw [List.getElem?_append_right (by simp), List.getElem?_append_left (by simp [tk_row_len]; omega)]
  simp only [List.length_cons, List.length_nil]
  rw [show 5 + i - (0 + 1 + 1 + 1 + 1 + 1) = i by omega]
  exact tk_row_get hi
theorem dw_fb {i : Nat} (hi : i < 12) : (dw h dr db lg fa fr fb ka pg pn us di bt dk lf wn rd en fl hd)[17 + i]? = some (fb i, .inl (ka 0, 512, .inl (bt i))) := by
  unfold dw
  rw [List.getElem?_append_right (by simp; omega), List.getElem?_append_right (by simp [tk_row_len]; omega)]
  simp only [List.length_cons, List.length_nil, tk_row_len]
  rw [show 17 + i - (0 + 1 + 1 + 1 + 1 + 1) - 12 = i by omega]
  exact tk_row_get hi
theorem dw_set_fr {i : Nat} (hi : i < 12) (a b c d : Int32) : (dw h dr db lg fa fr fb ka pg pn us di bt dk lf wn rd en fl hd).set (5 + i) (fr i, .inr (1, [.ref (fb i), .int a, .int b, .int c, .int d])) = dw h dr db lg fa fr fb ka (upd pg i a) (upd pn i b) (upd us i c) (upd di i d) bt dk lf wn rd en fl hd := by
  unfold dw
  rw [List.set_append_right _ _ (by simp), List.set_append_left _ _ (by simp [tk_row_len]; omega)]
  simp only [List.length_cons, List.length_nil]
  rw [show 5 + i - (0 + 1 + 1 + 1 + 1 + 1) = i by omega, tk_row_set hi]
  congr 2
  apply tk_row_congr
  intro j _
  by_cases hj : j = i
  · subst hj; simp [va_up, upd]
  · simp [va_up, upd, hj]
theorem dw_set_fb {i : Nat} (hi : i < 12) (f : Nat → Int32) : (dw h dr db lg fa fr fb ka pg pn us di bt dk lf wn rd en fl hd).set (17 + i) (fb i, .inl (ka 0, 512, .inl f)) = dw h dr db lg fa fr fb ka pg pn us di (va_up bt i f) dk lf wn rd en fl hd := by
  unfold dw
  rw [List.set_append_right _ _ (by simp; omega), List.set_append_right _ _ (by simp [tk_row_len]; omega)]
  simp only [List.length_cons, List.length_nil, tk_row_len]
  rw [show 17 + i - (0 + 1 + 1 + 1 + 1 + 1) - 12 = i by omega, tk_row_set hi]
  congr 2
  apply tk_row_congr
  intro j _
  by_cases hj : j = i
  · subst hj; simp [va_up]
  · simp [va_up, hj]
theorem dw_set_pu {i : Nat} (hi : i < 12) (b c : Int32) : (dw h dr db lg fa fr fb ka pg pn us di bt dk lf wn rd en fl hd).set (5 + i) (fr i, .inr (1, [.ref (fb i), .int (pg i), .int b, .int c, .int (di i)])) = dw h dr db lg fa fr fb ka pg (upd pn i b) (upd us i c) di bt dk lf wn rd en fl hd := by
  rw [dw_set_fr hi, upd_id, upd_id]
theorem dw_set_p {i : Nat} (hi : i < 12) (b : Int32) : (dw h dr db lg fa fr fb ka pg pn us di bt dk lf wn rd en fl hd).set (5 + i) (fr i, .inr (1, [.ref (fb i), .int (pg i), .int b, .int (us i), .int (di i)])) = dw h dr db lg fa fr fb ka pg (upd pn i b) us di bt dk lf wn rd en fl hd := by
  rw [dw_set_fr hi, upd_id, upd_id, upd_id]
theorem dw_set_u {i : Nat} (hi : i < 12) (b : Int32) : (dw h dr db lg fa fr fb ka pg pn us di bt dk lf wn rd en fl hd).set (5 + i) (fr i, .inr (1, [.ref (fb i), .int (pg i), .int (pn i), .int b, .int (di i)])) = dw h dr db lg fa fr fb ka pg pn (upd us i b) di bt dk lf wn rd en fl hd := by
  rw [dw_set_fr hi, upd_id, upd_id, upd_id]
theorem dw_set_d {i : Nat} (hi : i < 12) (b : Int32) : (dw h dr db lg fa fr fb ka pg pn us di bt dk lf wn rd en fl hd).set (5 + i) (fr i, .inr (1, [.ref (fb i), .int (pg i), .int (pn i), .int (us i), .int b])) = dw h dr db lg fa fr fb ka pg pn us (upd di i b) bt dk lf wn rd en fl hd := by
  rw [dw_set_fr hi, upd_id, upd_id, upd_id]
theorem dw_set_n {i : Nat} (hi : i < 12) : (dw h dr db lg fa fr fb ka pg pn us di bt dk lf wn rd en fl hd).set (5 + i) (fr i, .inr (1, [.ref (fb i), .int (pg i), .int (pn i), .int (us i), .int (di i)])) = dw h dr db lg fa fr fb ka pg pn us di bt dk lf wn rd en fl hd := by
  rw [dw_set_fr hi, upd_id, upd_id, upd_id, upd_id]
/-- the addresses alone say that the cells are apart -/
theorem dw_D {A : Nat → Prop} {pg' pn' us' di' : Nat → Int32} {bt' : Nat → Nat → Int32} {dk' : Nat → Int32} {lf' wn' rd' en' fl' hd' : Int32} (hD : va_D A (dw h dr db lg fa fr fb ka pg pn us di bt dk lf wn rd en fl hd)) : va_D A (dw h dr db lg fa fr fb ka pg' pn' us' di' bt' dk' lf' wn' rd' en' fl' hd') := by
  have key : ∀ (j : Nat) (q : Nat × va_E), (dw h dr db lg fa fr fb ka pg' pn' us' di' bt' dk' lf' wn' rd' en' fl' hd')[j]? = some q → ∃ e, (dw h dr db lg fa fr fb ka pg pn us di bt dk lf wn rd en fl hd)[j]? = some (q.1, e) := by
    intro j q hj
    by_cases h0 : j < 5
    · rcases (show j = 0 ∨ j = 1 ∨ j = 2 ∨ j = 3 ∨ j = 4 by omega) with rfl | rfl | rfl | rfl | rfl <;> cases hj <;> exact ⟨_, rfl⟩
    · by_cases h1 : j < 17
      · obtain ⟨i, rfl⟩ : ∃ i, j = 5 + i := ⟨j - 5, by omega⟩
        rw [dw_fr (by omega)] at hj
        cases hj
        exact ⟨_, dw_fr (by omega)⟩
      · have hl := (List.getElem?_eq_some_iff.mp hj).1
        have hz : (dw h dr db lg fa fr fb ka pg' pn' us' di' bt' dk' lf' wn' rd' en' fl' hd').length = 29 := by simp [dw, tk_row_len]
        obtain ⟨i, rfl⟩ : ∃ i, j = 17 + i := ⟨j - 17, by omega⟩
        rw [dw_fb (by omega)] at hj
        cases hj
        exact ⟨_, dw_fb (by omega)⟩
  refine ⟨fun i j x y hi hj hxy => ?_, fun k q hk => ?_⟩
  · obtain ⟨e1, h1⟩ := key i x hi
    obtain ⟨e2, h2⟩ := key j y hj
    exact hD.1 i j _ _ h1 h2 hxy
  · obtain ⟨e1, h1⟩ := key k q hk
    exact hD.2 k (q.1, e1) h1
theorem dw_A {sz : Nat} {pg' pn' us' di' : Nat → Int32} {bt' : Nat → Nat → Int32} {dk' : Nat → Int32} {lf' wn' rd' en' fl' hd' : Int32} {q : Nat} (hq : va_A (dw h dr db lg fa fr fb ka pg pn us di bt dk lf wn rd en fl hd) sz q) : va_A (dw h dr db lg fa fr fb ka pg' pn' us' di' bt' dk' lf' wn' rd' en' fl' hd') sz q := by
  rcases hq with ⟨j, e, hj⟩ | hq
  · left
    by_cases h0 : j < 5
    · rcases (show j = 0 ∨ j = 1 ∨ j = 2 ∨ j = 3 ∨ j = 4 by omega) with rfl | rfl | rfl | rfl | rfl <;> cases hj
      · exact ⟨0, _, rfl⟩
      · exact ⟨1, _, rfl⟩
      · exact ⟨2, _, rfl⟩
      · exact ⟨3, _, rfl⟩
      · exact ⟨4, _, rfl⟩
    · by_cases h1 : j < 17
      · obtain ⟨i, rfl⟩ : ∃ i, j = 5 + i := ⟨j - 5, by omega⟩
        rw [dw_fr (by omega)] at hj
        cases hj
        exact ⟨5 + i, _, dw_fr (by omega)⟩
      · have hl := (List.getElem?_eq_some_iff.mp hj).1
        have hz : (dw h dr db lg fa fr fb ka pg pn us di bt dk lf wn rd en fl hd).length = 29 := by simp [dw, tk_row_len]
        obtain ⟨i, rfl⟩ : ∃ i, j = 17 + i := ⟨j - 17, by omega⟩
        rw [dw_fb (by omega)] at hj
        cases hj
        exact ⟨17 + i, _, dw_fb (by omega)⟩
  · exact Or.inr hq
end DW
end
section
theorem tk_ix {x : Int32} (N : Nat) (hN : N < 2 ^ 31) : (x < 0 ∨ nI N ≤ x) ∨ ∃ n : Nat, n < N ∧ x = nI n := by
  rcases pk_ix x hN with h | h | ⟨j, h1, h2⟩
  · exact Or.inl (Or.inl h)
  · exact Or.inl (Or.inr h)
  · exact Or.inr ⟨j, h1, h2⟩
theorem tk_is1 {x : Int32} {n N : Nat} (ex : x = nI n) (hn : n < N) (hN : N < 2 ^ 31) : (if x < 0 then (0 : Int32) else if nI N ≤ x then 0 else 1) = 1 := by
  rw [if_neg (by rw [ex]; exact nI_pos (by omega)), if_neg (by rw [ex]; exact nI_ge hn hN)]
theorem tk_is0 {x : Int32} {N : Nat} (h : x < 0 ∨ nI N ≤ x) : (if x < 0 then (0 : Int32) else if nI N ≤ x then 0 else 1) = 0 := by
  by_cases h1 : x < 0
  · rw [if_pos h1]
  · rw [if_neg h1, if_pos (h.resolve_left h1)]
/-- the lowest frame that has the page x, or -1 -/
def fwR (pg : Nat → Int32) (x r : Int32) : Prop := (r = -1 ∧ ∀ i, i < 12 → pg i ≠ x) ∨ ∃ i, i < 12 ∧ r = nI i ∧ pg i = x ∧ ∀ j, j < i → pg j ≠ x
theorem fwR_step {pg : Nat → Int32} {x r : Int32} (h : fwR pg x r) {i : Nat} (hi : i < 12) (he : ∀ j, j < i → pg j ≠ x) (hx : pg i = x) : r = nI i := by
  rcases h with ⟨-, h⟩ | ⟨k, hk, hr, hp, hm⟩
  · exact absurd hx (h i hi)
  · rcases Nat.lt_trichotomy i k with g | g | g
    · exact absurd hx (hm i g)
    · rw [hr, g]
    · exact absurd hp (he k g)
theorem fwR_none {pg : Nat → Int32} {x r : Int32} (h : fwR pg x r) (he : ∀ j, j < 12 → pg j ≠ x) : r = -1 := by
  rcases h with ⟨h, -⟩ | ⟨k, hk, -, hp, -⟩
  · exact h
  · exact absurd hp (he k hk)

set_option maxHeartbeats 4000000 in
set_option maxRecDepth 100000 in
theorem c_B_frameWith (l : Launch) (dC : Nat → ClassId) (dI : Nat → Nat → Nat) (ka : Nat → ClassId) (h dr db lg fa : Nat) (fr fb : Nat → Nat) (pg pn us di : Nat → Int32) (bt : Nat → Nat → Int32) (dk : Nat → Int32) (lf wn rd en fl hd : Int32) (x r0 : Int32) (hr0 : fwR pg x r0) : Met l yB_frameWith wB_frameWith ({ frames := 0, cells := 0, slots := 0, locals := 0 }) (va_Pc [.ref h, .int x] (fun U => tk_E dC dI ka U ∧ va_P (dC, dI) clB (dw h dr db lg fa fr fb ka pg pn us di bt dk lf wn rd en fl hd) U.heap)) (vp_Si (fun r => r = r0)) 0 0 (fun _ => False) := by
  refine Met.ofW (cc := cB_frameWith) (maxL := 3) (ret := (some .int)) (by decide) rfl ?_
  intro p e s m args below meth c s₁ B hml hv
  obtain ⟨rfl, hE, hP⟩ := hv
  have hx := B.exec
  have hb := B.bytes
  have hr := B.returns
  have hts := atoms_spec (ws := wB_frameWith) B.pre
  have hq : ∀ w ∈ lwg, w.before _ s = true := fun w h => hts w (List.mem_cons_of_mem _ h)
  have hown : s.vm.findClass RB = some m.cls := findClass_of_methodNamed B.named
  have hlocks := B.notSynchronized
  have hK := hE.1
  have hN := hE.2
  have hP : va_P (dC, dI) clB (dw h dr db lg fa fr fb ka pg pn us di bt dk lf wn rd en fl hd) s.heap := hP
  have hl := lv_entry ([.ref h, .int x]) (n := 3) (Nat.le_of_ble_eq_true rfl)
  rw [lg_entry_eq]
  generalize (lg_sl ([.ref h, .int x]) ++ List.replicate (3 - (lg_sl ([.ref h, .int x])).length) Slot.unset).toArray = ls at hl ⊢
  have hl : lv_has ls 3 [(0, .ref h), (1, .int x)] := hl
  refine lv_iconst (v := 0) hx hb dB_frameWith_0 (by decide) ?_
  refine lv_istore_n (lv' := [(2, .int 0), (0, .ref h), (1, .int x)]) hx hb dB_frameWith_1 rfl hl (by decide) rfl (fun ls hl => ?_)
  refine tk_loop 2 (fun (n : Nat) (z : Nat) H locs ls => (H = s.heap) ∧ (locs = []) ∧ (z ≤ 12) ∧ (n = 12 - z) ∧ (∀ j, j < z → pg j ≠ x) ∧ va_P (dC, dI) clB (dw h dr db lg fa fr fb ka pg pn us di bt dk lf wn rd en fl hd) H ∧ lv_has ls 3 [(0, .ref h), (1, .int x), (2, .int (nI z))]) ?_ 12 0 ⟨rfl, rfl, (by decide), rfl, (fun j h => absurd h (Nat.not_lt_zero j)), hP, lv_sub hl [1, 2, 0] rfl⟩
  skip
  intro n z H locs ls hI ih
  obtain ⟨rfl, rfl, hi, hn, he, hP, hl⟩ := hI
  refine lv_iload_n hx hb dB_frameWith_2 rfl (lv_at hl 2 rfl) ?_
  refine lv_bipush (v := 12) hx hb dB_frameWith_3 (by decide) ?_
  refine lv_icmp_ge (tgt := 29) hx hb dB_frameWith_5 (by decide) (fun c_1 => ?_) (fun c_1 => ?_)
  · refine lv_iconst (v := (-1)) hx hb dB_frameWith_29 (by decide) ?_
    exact W.iret (v := (-1)) hx hb hr (fun t ht hW => ⟨(-1), rfl, (fwR_none hr0 (fun j hj => he j (by have := (nI_leI (a := 12) (b := z) (by decide) (by omega)).mp c_1; omega))).symm, ht⟩) (fun _ h => by cases h) dB_frameWith_30
  · have hz : z < 12 := by have := mt (nI_leI (a := 12) (b := z) (by decide) (by omega)).mpr c_1; omega
    refine lv_aload_n hx hb dB_frameWith_8 rfl (lv_at hl 0 rfl) ?_
    refine va_get (D := (dC, dI)) (ci := 3) (v := .ref fa) (C := RB) (T := TB) (N := 4) hx hb hts (inC inB) hown hK hP 0 rfl rfl 2 (by decide) (hq _ wi_116) (fun _ h9 => h9) rfl dB_frameWith_9 ?_
    refine lv_iload_n hx hb dB_frameWith_12 rfl (lv_at hl 2 rfl) ?_
    refine tk_aald (n := z) (y := fr z) hx hb hK hP 4 1 rfl rfl rfl hz (by decide) rfl dB_frameWith_13 ?_
    refine va_getN (D := (dC, dI)) (ci := 1) (v := .int (pg z)) (C := RF) (T := TF) (N := 5) hx hb hts (inC inF) hown hK hP (5 + z) (dw_fr hz) rfl 1 (by decide) (va_Nw.use rfl (hN _ ns_9)) (fun _ h9 => h9) rfl dB_frameWith_14 ?_
    refine lv_iload_n hx hb dB_frameWith_17 rfl (lv_at hl 1 rfl) ?_
    refine lv_icmp_ne (tgt := 23) hx hb dB_frameWith_18 (by decide) (fun c_2 => ?_) (fun c_2 => ?_)
    · refine lv_iinc (v := ((nI z) + 1)) (lv' := [(2, .int ((nI z) + 1)), (0, .ref h), (1, .int x)]) hx hb dB_frameWith_23 hl (k := 2) rfl rfl (by decide) rfl (fun ls hl => ?_)
      refine lv_goto (tgt := 2) hx hb dB_frameWith_26 (by decide) ?_
      exact ih (n - 1) (z + 1) _ _ _ (by omega) ⟨rfl, rfl, by omega, by omega, (fun j h => by rcases Nat.lt_or_ge j z with g | g; exact he j g; rw [show j = z by omega]; exact c_2), hP, lv_sub hl [1, 2, 0] (by rw [← nI_1]; rfl)⟩
    · refine lv_iload_n hx hb dB_frameWith_21 rfl (lv_at hl 2 rfl) ?_
      exact W.iret (v := (nI z)) hx hb hr (fun t ht hW => ⟨(nI z), rfl, (fwR_step hr0 hz he c_2).symm, ht⟩) (fun _ h => by cases h) dB_frameWith_22

/-- whether all frames have pins -/
def ahR (pn : Nat → Int32) (r : Int32) : Prop := (r = 1 ∧ ∀ i, i < 12 → ¬ pn i ≤ 0) ∨ (r = 0 ∧ ∃ i, i < 12 ∧ pn i ≤ 0)
theorem ahR_no {pn : Nat → Int32} {r : Int32} (h : ahR pn r) {i : Nat} (hi : i < 12) (hp : pn i ≤ 0) : r = 0 := by
  rcases h with ⟨-, h⟩ | ⟨h, -⟩
  · exact absurd hp (h i hi)
  · exact h
theorem ahR_yes {pn : Nat → Int32} {r : Int32} (h : ahR pn r) (he : ∀ i, i < 12 → ¬ pn i ≤ 0) : r = 1 := by
  rcases h with ⟨h, -⟩ | ⟨-, i, hi, hp⟩
  · exact h
  · exact absurd hp (he i hi)
theorem tk_b1 {c : Prop} [Decidable c] (h : ¬ (if c then (0 : Int32) else 1) = 0) : ¬ c := fun hc => h (if_pos hc)
theorem tk_b0 {c : Prop} [Decidable c] (h : (if c then (0 : Int32) else 1) = 0) : c := by
  by_cases hc : c
  · exact hc
  · rw [if_neg hc] at h; exact absurd h (by decide)
theorem tk_c1 {c : Prop} [Decidable c] (h : ¬ (if c then (1 : Int32) else 0) = 0) : c := by
  by_cases hc : c
  · exact hc
  · rw [if_neg hc] at h; exact absurd rfl h
theorem tk_c0 {c : Prop} [Decidable c] (h : (if c then (1 : Int32) else 0) = 0) : ¬ c := fun hc => by rw [if_pos hc] at h; exact absurd h (by decide)

set_option maxHeartbeats 4000000 in
set_option maxRecDepth 100000 in
theorem c_B_allHavePins (l : Launch) (dC : Nat → ClassId) (dI : Nat → Nat → Nat) (ka : Nat → ClassId) (h dr db lg fa : Nat) (fr fb : Nat → Nat) (pg pn us di : Nat → Int32) (bt : Nat → Nat → Int32) (dk : Nat → Int32) (lf wn rd en fl hd : Int32) (r0 : Int32) (hr0 : ahR pn r0) : Met l yB_allHavePins wB_allHavePins ({ frames := 1, cells := 0, slots := 0, locals := 20 }) (va_Pc [.ref h] (fun U => tk_E dC dI ka U ∧ va_P (dC, dI) clB (dw h dr db lg fa fr fb ka pg pn us di bt dk lf wn rd en fl hd) U.heap)) (vp_Si (fun r => r = r0)) 0 0 (fun _ => False) := by
  refine Met.ofW (cc := cB_allHavePins) (maxL := 2) (ret := (some .boolean)) (by decide) rfl ?_
  intro p e s m args below meth c s₁ B hml hv
  obtain ⟨rfl, hE, hP⟩ := hv
  have hx := B.exec
  have hb := B.bytes
  have hr := B.returns
  have hts := atoms_spec (ws := wB_allHavePins) B.pre
  have hq : ∀ w ∈ lwg, w.before _ s = true := fun w h => hts w (List.mem_cons_of_mem _ h)
  have hown : s.vm.findClass RB = some m.cls := findClass_of_methodNamed B.named
  have hlocks := B.notSynchronized
  have hK := hE.1
  have hN := hE.2
  have hP : va_P (dC, dI) clB (dw h dr db lg fa fr fb ka pg pn us di bt dk lf wn rd en fl hd) s.heap := hP
  have hl := lv_entry ([.ref h]) (n := 2) (Nat.le_of_ble_eq_true rfl)
  rw [lg_entry_eq]
  generalize (lg_sl ([.ref h]) ++ List.replicate (2 - (lg_sl ([.ref h])).length) Slot.unset).toArray = ls at hl ⊢
  have hl : lv_has ls 2 [(0, .ref h)] := hl
  refine lv_iconst (v := 0) hx hb dB_allHavePins_0 (by decide) ?_
  refine lv_istore_n (lv' := [(1, .int 0), (0, .ref h)]) hx hb dB_allHavePins_1 rfl hl (by decide) rfl (fun ls hl => ?_)
  refine tk_loop 2 (fun (n : Nat) (z : Nat) H locs ls => (H = s.heap) ∧ (locs = []) ∧ (z ≤ 12) ∧ (n = 12 - z) ∧ (∀ j, j < z → ¬ pn j ≤ 0) ∧ va_P (dC, dI) clB (dw h dr db lg fa fr fb ka pg pn us di bt dk lf wn rd en fl hd) H ∧ lv_has ls 2 [(0, .ref h), (1, .int (nI z))]) ?_ 12 0 ⟨rfl, rfl, (by decide), rfl, (fun j h => absurd h (Nat.not_lt_zero j)), hP, lv_sub hl [1, 0] rfl⟩
  skip
  intro n z H locs ls hI ih
  obtain ⟨rfl, rfl, hi, hn, he, hP, hl⟩ := hI
  refine lv_iload_n hx hb dB_allHavePins_2 rfl (lv_at hl 1 rfl) ?_
  refine lv_bipush (v := 12) hx hb dB_allHavePins_3 (by decide) ?_
  refine lv_icmp_ge (tgt := 28) hx hb dB_allHavePins_5 (by decide) (fun c_1 => ?_) (fun c_1 => ?_)
  · refine lv_iconst (v := 1) hx hb dB_allHavePins_28 (by decide) ?_
    exact W.zret (v := 1) (ty := .boolean) hx hb hr rfl (fun t ht hW => ⟨1, rfl, (ahR_yes hr0 (fun j hj => he j (by have := (nI_leI (a := 12) (b := z) (by decide) (by omega)).mp c_1; omega))).symm, ht⟩) (fun _ h => by cases h) dB_allHavePins_29
  · have hz : z < 12 := by have := mt (nI_leI (a := 12) (b := z) (by decide) (by omega)).mpr c_1; omega
    refine lv_aload_n hx hb dB_allHavePins_8 rfl (lv_at hl 0 rfl) ?_
    refine va_get (D := (dC, dI)) (ci := 3) (v := .ref fa) (C := RB) (T := TB) (N := 4) hx hb hts (inC inB) hown hK hP 0 rfl rfl 2 (by decide) (hq _ wi_116) (fun _ h9 => h9) rfl dB_allHavePins_9 ?_
    refine lv_iload_n hx hb dB_allHavePins_12 rfl (lv_at hl 1 rfl) ?_
    refine tk_aald (n := z) (y := fr z) hx hb hK hP 4 1 rfl rfl rfl hz (by decide) rfl dB_allHavePins_13 ?_
    refine vp_callSi (va_Run.run (va_runV (As := []) (rest := []) ⟨hx, hb, hml, hown, hts⟩ (c_F_hasPins l dC dI ka (fr z) (fb z) (pg z) (pn z) (us z) (di z)) (cwV 0 hts (tw_V wi_134 wi_135 wi_136 wi_27 wi_137) rfl rfl rfl (by decide +kernel) ⟨Nat.le_of_ble_eq_true rfl, Nat.le_of_ble_eq_true rfl⟩) ⟨fun a U g mk q => ⟨q.1, tk_E.call q.2.1, q.2.2⟩, va_recv hK hP (ci := 1) (q0 := (5 + z)) rfl (dw_fr hz), fun U hU hW => ⟨rfl, tk_E.warm hW hE, by rw [hU]; exact (tk_one hP (k := 5 + z) (dw_fr hz))⟩⟩ rfl rfl hl.1 rfl (lv_room (Nat.le_of_ble_eq_true rfl)) dB_allHavePins_14 ⟨Nat.zero_le _, Nat.zero_le _⟩)) (fun r_2 er_2 => ?_)
    subst er_2
    refine lv_if_ne (tgt := 22) hx hb dB_allHavePins_17 (by decide) (fun c_3 => ?_) (fun c_3 => ?_)
    · refine lv_iinc (v := ((nI z) + 1)) (lv' := [(1, .int ((nI z) + 1)), (0, .ref h)]) hx hb dB_allHavePins_22 hl (k := 1) rfl rfl (by decide) rfl (fun ls hl => ?_)
      refine lv_goto (tgt := 2) hx hb dB_allHavePins_25 (by decide) ?_
      exact ih (n - 1) (z + 1) _ _ _ (by omega) ⟨rfl, rfl, by omega, by omega, (fun j h => by rcases Nat.lt_or_ge j z with g | g; exact he j g; rw [show j = z by omega]; exact tk_b1 c_3), hP, lv_sub hl [1, 0] (by rw [← nI_1]; rfl)⟩
    · refine lv_iconst (v := 0) hx hb dB_allHavePins_20 (by decide) ?_
      exact W.zret (v := 0) (ty := .boolean) hx hb hr rfl (fun t ht hW => ⟨0, rfl, (ahR_no hr0 hz (tk_b0 c_3)).symm, ht⟩) (fun _ h => by cases h) dB_allHavePins_21

/-- how many frames below z have a page -/
def cntP (pg : Nat → Int32) : Nat → Nat
  | 0 => 0
  | z + 1 => cntP pg z + if pg z = -1 then 0 else 1
theorem cntP_le (pg : Nat → Int32) (z : Nat) : cntP pg z ≤ z := by
  induction z with
  | zero => exact Nat.le_refl 0
  | succ z ih => simp only [cntP]; split <;> omega

set_option maxHeartbeats 4000000 in
set_option maxRecDepth 100000 in
theorem c_B_framesWithPages (l : Launch) (dC : Nat → ClassId) (dI : Nat → Nat → Nat) (ka : Nat → ClassId) (h dr db lg fa : Nat) (fr fb : Nat → Nat) (pg pn us di : Nat → Int32) (bt : Nat → Nat → Int32) (dk : Nat → Int32) (lf wn rd en fl hd : Int32) : Met l yB_framesWithPages wB_framesWithPages ({ frames := 1, cells := 0, slots := 0, locals := 20 }) (va_Pc [.ref h] (fun U => tk_E dC dI ka U ∧ va_P (dC, dI) clB (dw h dr db lg fa fr fb ka pg pn us di bt dk lf wn rd en fl hd) U.heap)) (vp_Si (fun r => r = nI (cntP pg 12))) 0 0 (fun _ => False) := by
  refine Met.ofW (cc := cB_framesWithPages) (maxL := 3) (ret := (some .int)) (by decide) rfl ?_
  intro p e s m args below meth c s₁ B hml hv
  obtain ⟨rfl, hE, hP⟩ := hv
  have hx := B.exec
  have hb := B.bytes
  have hr := B.returns
  have hts := atoms_spec (ws := wB_framesWithPages) B.pre
  have hq : ∀ w ∈ lwg, w.before _ s = true := fun w h => hts w (List.mem_cons_of_mem _ h)
  have hown : s.vm.findClass RB = some m.cls := findClass_of_methodNamed B.named
  have hlocks := B.notSynchronized
  have hK := hE.1
  have hN := hE.2
  have hP : va_P (dC, dI) clB (dw h dr db lg fa fr fb ka pg pn us di bt dk lf wn rd en fl hd) s.heap := hP
  have hl := lv_entry ([.ref h]) (n := 3) (Nat.le_of_ble_eq_true rfl)
  rw [lg_entry_eq]
  generalize (lg_sl ([.ref h]) ++ List.replicate (3 - (lg_sl ([.ref h])).length) Slot.unset).toArray = ls at hl ⊢
  have hl : lv_has ls 3 [(0, .ref h)] := hl
  refine lv_iconst (v := 0) hx hb dB_framesWithPages_0 (by decide) ?_
  refine lv_istore_n (lv' := [(1, .int 0), (0, .ref h)]) hx hb dB_framesWithPages_1 rfl hl (by decide) rfl (fun ls hl => ?_)
  refine lv_iconst (v := 0) hx hb dB_framesWithPages_2 (by decide) ?_
  refine lv_istore_n (lv' := [(2, .int 0), (1, .int 0), (0, .ref h)]) hx hb dB_framesWithPages_3 rfl hl (by decide) rfl (fun ls hl => ?_)
  refine tk_loop 4 (fun (n : Nat) (z : Nat) H locs ls => (H = s.heap) ∧ (locs = []) ∧ (z ≤ 12) ∧ (n = 12 - z) ∧ va_P (dC, dI) clB (dw h dr db lg fa fr fb ka pg pn us di bt dk lf wn rd en fl hd) H ∧ lv_has ls 3 [(0, .ref h), (1, .int (nI (cntP pg z))), (2, .int (nI z))]) ?_ 12 0 ⟨rfl, rfl, (by decide), rfl, hP, lv_sub hl [2, 1, 0] rfl⟩
  skip
  intro n z H locs ls hI ih
  obtain ⟨rfl, rfl, hi, hn, hP, hl⟩ := hI
  refine lv_iload_n hx hb dB_framesWithPages_4 rfl (lv_at hl 2 rfl) ?_
  refine lv_bipush (v := 12) hx hb dB_framesWithPages_5 (by decide) ?_
  refine lv_icmp_ge (tgt := 31) hx hb dB_framesWithPages_7 (by decide) (fun c_1 => ?_) (fun c_1 => ?_)
  · refine lv_iload_n hx hb dB_framesWithPages_31 rfl (lv_at hl 1 rfl) ?_
    exact W.iret (v := (nI (cntP pg z))) hx hb hr (fun t ht hW => ⟨(nI (cntP pg z)), rfl, (by rw [show z = 12 by (have := (nI_leI (a := 12) (b := z) (by decide) (by omega)).mp c_1; omega)]), ht⟩) (fun _ h => by cases h) dB_framesWithPages_32
  · have hz : z < 12 := by have := mt (nI_leI (a := 12) (b := z) (by decide) (by omega)).mpr c_1; omega
    refine lv_aload_n hx hb dB_framesWithPages_10 rfl (lv_at hl 0 rfl) ?_
    refine va_get (D := (dC, dI)) (ci := 3) (v := .ref fa) (C := RB) (T := TB) (N := 4) hx hb hts (inC inB) hown hK hP 0 rfl rfl 2 (by decide) (hq _ wi_116) (fun _ h9 => h9) rfl dB_framesWithPages_11 ?_
    refine lv_iload_n hx hb dB_framesWithPages_14 rfl (lv_at hl 2 rfl) ?_
    refine tk_aald (n := z) (y := fr z) hx hb hK hP 4 1 rfl rfl rfl hz (by decide) rfl dB_framesWithPages_15 ?_
    refine vp_callSi (va_Run.run (va_runV (As := []) (rest := []) ⟨hx, hb, hml, hown, hts⟩ (c_F_isEmpty l dC dI ka (fr z) (fb z) (pg z) (pn z) (us z) (di z)) (cwV 0 hts (tw_V wi_149 wi_150 wi_151 wi_27 wi_152) rfl rfl rfl (by decide +kernel) ⟨Nat.le_of_ble_eq_true rfl, Nat.le_of_ble_eq_true rfl⟩) ⟨fun a U g mk q => ⟨q.1, tk_E.call q.2.1, q.2.2⟩, va_recv hK hP (ci := 1) (q0 := (5 + z)) rfl (dw_fr hz), fun U hU hW => ⟨rfl, tk_E.warm hW hE, by rw [hU]; exact (tk_one hP (k := 5 + z) (dw_fr hz))⟩⟩ rfl rfl hl.1 rfl (lv_room (Nat.le_of_ble_eq_true rfl)) dB_framesWithPages_16 ⟨Nat.zero_le _, Nat.zero_le _⟩)) (fun r_2 er_2 => ?_)
    subst er_2
    refine lv_if_ne (tgt := 25) hx hb dB_framesWithPages_19 (by decide) (fun c_3 => ?_) (fun c_3 => ?_)
    · refine lv_iinc (v := ((nI z) + 1)) (lv' := [(2, .int ((nI z) + 1)), (0, .ref h), (1, .int (nI (cntP pg z)))]) hx hb dB_framesWithPages_25 hl (k := 2) rfl rfl (by decide) rfl (fun ls hl => ?_)
      refine lv_goto (tgt := 4) hx hb dB_framesWithPages_28 (by decide) ?_
      exact ih (n - 1) (z + 1) _ _ _ (by omega) ⟨rfl, rfl, by omega, by omega, hP, lv_sub hl [1, 2, 0] (by rw [show cntP pg (z + 1) = cntP pg z from by simp only [cntP]; rw [if_pos (tk_c1 c_3)]; rfl, ← nI_1 z]; rfl)⟩
    · refine lv_iinc (v := ((nI (cntP pg z)) + 1)) (lv' := [(1, .int ((nI (cntP pg z)) + 1)), (0, .ref h), (2, .int (nI z))]) hx hb dB_framesWithPages_22 hl (k := 1) rfl rfl (by decide) rfl (fun ls hl => ?_)
      refine lv_iinc (v := ((nI z) + 1)) (lv' := [(2, .int ((nI z) + 1)), (1, .int ((nI (cntP pg z)) + 1)), (0, .ref h)]) hx hb dB_framesWithPages_25 hl (k := 2) rfl rfl (by decide) rfl (fun ls hl => ?_)
      refine lv_goto (tgt := 4) hx hb dB_framesWithPages_28 (by decide) ?_
      exact ih (n - 1) (z + 1) _ _ _ (by omega) ⟨rfl, rfl, by omega, by omega, hP, lv_sub hl [2, 1, 0] (by rw [show cntP pg (z + 1) = cntP pg z + 1 from by simp only [cntP]; rw [if_neg (tk_c0 c_3)], ← nI_1 z, ← nI_1 (cntP pg z)]; rfl)⟩

/-- the dirty frame of the lowest page, or -1 -/
def dlR (pg di : Nat → Int32) (z : Nat) (r : Int32) : Prop := (r = -1 ∧ ∀ i, i < z → di i = 0) ∨ ∃ i, i < z ∧ r = nI i ∧ ¬ di i = 0 ∧ (∀ j, j < z → ¬ di j = 0 → pg i ≤ pg j) ∧ ∀ j, j < i → ¬ di j = 0 → pg i < pg j
theorem dlR_0 (pg di : Nat → Int32) : dlR pg di 0 (-1) := Or.inl ⟨rfl, fun i h => absurd h (Nat.not_lt_zero i)⟩
theorem dlR_clean {pg di : Nat → Int32} {z : Nat} {r : Int32} (h : dlR pg di z r) (hd : di z = 0) : dlR pg di (z + 1) r := by
  rcases h with ⟨h1, h2⟩ | ⟨i, h1, h2, h3, h4, h5⟩
  · refine Or.inl ⟨h1, fun i hi => ?_⟩
    rcases Nat.lt_or_ge i z with g | g
    · exact h2 i g
    · rw [show i = z by omega]; exact hd
  · refine Or.inr ⟨i, by omega, h2, h3, fun j hj hdj => ?_, h5⟩
    rcases Nat.lt_or_ge j z with g | g
    · exact h4 j g hdj
    · rw [show j = z by omega] at hdj; exact absurd hd hdj
theorem dlR_first {pg di : Nat → Int32} {z : Nat} (h : dlR pg di z (-1)) (hz : z < 12) (hd : ¬ di z = 0) : dlR pg di (z + 1) (nI z) := by
  rcases h with ⟨h1, h2⟩ | ⟨i, h1, h2, h3, h4, h5⟩
  · refine Or.inr ⟨z, by omega, rfl, hd, fun j hj hdj => ?_, fun j hj hdj => absurd (h2 j hj) hdj⟩
    rcases Nat.lt_or_ge j z with g | g
    · exact absurd (h2 j g) hdj
    · rw [show j = z by omega]; exact Int32.le_refl _
  · exact absurd h2 (fun e => absurd (e ▸ nI_pos (n := i) (by omega)) (by decide))
theorem dlR_keep {pg di : Nat → Int32} {z i : Nat} (h : dlR pg di z (nI i)) (hz : z < 12) (hi : i < 12) (hp : ¬ pg z < pg i) : dlR pg di (z + 1) (nI i) := by
  rcases h with ⟨h1, h2⟩ | ⟨k, h1, h2, h3, h4, h5⟩
  · exact absurd (h1 ▸ nI_pos (n := i) (by omega)) (by decide)
  · by_cases hk : k < 2 ^ 31
    · have e : i = k := (nI_eq (by omega) hk).mp h2
      subst e
      refine Or.inr ⟨i, by omega, rfl, h3, fun j hj hdj => ?_, h5⟩
      rcases Nat.lt_or_ge j z with g | g
      · exact h4 j g hdj
      · rw [show j = z by omega]; exact Int32.not_lt.mp hp
    · omega
theorem dlR_less {pg di : Nat → Int32} {z i : Nat} (h : dlR pg di z (nI i)) (hz : z < 12) (hi : i < 12) (hd : ¬ di z = 0) (hp : pg z < pg i) : dlR pg di (z + 1) (nI z) := by
  rcases h with ⟨h1, h2⟩ | ⟨k, h1, h2, h3, h4, h5⟩
  · exact absurd (h1 ▸ nI_pos (n := i) (by omega)) (by decide)
  · have e : i = k := (nI_eq (by omega) (by omega)).mp h2
    subst e
    refine Or.inr ⟨z, by omega, rfl, hd, fun j hj hdj => ?_, fun j hj hdj => Int32.lt_of_lt_of_le hp (h4 j hj hdj)⟩
    rcases Nat.lt_or_ge j z with g | g
    · exact Int32.le_of_lt (Int32.lt_of_lt_of_le hp (h4 j g hdj))
    · rw [show j = z by omega]; exact Int32.le_refl _
/-- it is one or none -/
theorem dlR_is {pg di : Nat → Int32} {z : Nat} {r : Int32} (h : dlR pg di z r) : r = -1 ∨ ∃ i, i < z ∧ r = nI i := by
  rcases h with ⟨h1, -⟩ | ⟨i, h1, h2, -⟩
  · exact Or.inl h1
  · exact Or.inr ⟨i, h1, h2⟩

set_option maxHeartbeats 4000000 in
set_option maxRecDepth 100000 in
theorem c_B_dirtyFrameOfLowestPage (l : Launch) (dC : Nat → ClassId) (dI : Nat → Nat → Nat) (ka : Nat → ClassId) (h dr db lg fa : Nat) (fr fb : Nat → Nat) (pg pn us di : Nat → Int32) (bt : Nat → Nat → Int32) (dk : Nat → Int32) (lf wn rd en fl hd : Int32) : Met l yB_dirtyFrameOfLowestPage wB_dirtyFrameOfLowestPage ({ frames := 0, cells := 0, slots := 0, locals := 0 }) (va_Pc [.ref h] (fun U => tk_E dC dI ka U ∧ va_P (dC, dI) clB (dw h dr db lg fa fr fb ka pg pn us di bt dk lf wn rd en fl hd) U.heap)) (vp_Si (fun r => dlR pg di 12 r)) 0 0 (fun _ => False) := by
  refine Met.ofW (cc := cB_dirtyFrameOfLowestPage) (maxL := 3) (ret := (some .int)) (by decide) rfl ?_
  intro p e s m args below meth c s₁ B hml hv
  obtain ⟨rfl, hE, hP⟩ := hv
  have hx := B.exec
  have hb := B.bytes
  have hr := B.returns
  have hts := atoms_spec (ws := wB_dirtyFrameOfLowestPage) B.pre
  have hq : ∀ w ∈ lwg, w.before _ s = true := fun w h => hts w (List.mem_cons_of_mem _ h)
  have hown : s.vm.findClass RB = some m.cls := findClass_of_methodNamed B.named
  have hlocks := B.notSynchronized
  have hK := hE.1
  have hN := hE.2
  have hP : va_P (dC, dI) clB (dw h dr db lg fa fr fb ka pg pn us di bt dk lf wn rd en fl hd) s.heap := hP
  have hl := lv_entry ([.ref h]) (n := 3) (Nat.le_of_ble_eq_true rfl)
  rw [lg_entry_eq]
  generalize (lg_sl ([.ref h]) ++ List.replicate (3 - (lg_sl ([.ref h])).length) Slot.unset).toArray = ls at hl ⊢
  have hl : lv_has ls 3 [(0, .ref h)] := hl
  refine lv_iconst (v := (-1)) hx hb dB_dirtyFrameOfLowestPage_0 (by decide) ?_
  refine lv_istore_n (lv' := [(1, .int (-1)), (0, .ref h)]) hx hb dB_dirtyFrameOfLowestPage_1 rfl hl (by decide) rfl (fun ls hl => ?_)
  refine lv_iconst (v := 0) hx hb dB_dirtyFrameOfLowestPage_2 (by decide) ?_
  refine lv_istore_n (lv' := [(2, .int 0), (1, .int (-1)), (0, .ref h)]) hx hb dB_dirtyFrameOfLowestPage_3 rfl hl (by decide) rfl (fun ls hl => ?_)
  refine tk_loop 4 (fun (n : Nat) (y : Nat × Int32) H locs ls => (H = s.heap) ∧ (locs = []) ∧ (y.1 ≤ 12) ∧ (n = 12 - y.1) ∧ (dlR pg di y.1 y.2) ∧ va_P (dC, dI) clB (dw h dr db lg fa fr fb ka pg pn us di bt dk lf wn rd en fl hd) H ∧ lv_has ls 3 [(0, .ref h), (1, .int (y.2)), (2, .int (nI y.1))]) ?_ 12 (0, -1) ⟨rfl, rfl, (by decide), rfl, dlR_0 pg di, hP, lv_sub hl [2, 1, 0] rfl⟩
  skip
  intro n y H locs ls hI ih
  obtain ⟨rfl, rfl, hi, hn, hdl, hP, hl⟩ := hI
  refine lv_iload_n hx hb dB_dirtyFrameOfLowestPage_4 rfl (lv_at hl 2 rfl) ?_
  refine lv_bipush (v := 12) hx hb dB_dirtyFrameOfLowestPage_5 (by decide) ?_
  refine lv_icmp_ge (tgt := 56) hx hb dB_dirtyFrameOfLowestPage_7 (by decide) (fun c_1 => ?_) (fun c_1 => ?_)
  · refine lv_iload_n hx hb dB_dirtyFrameOfLowestPage_56 rfl (lv_at hl 1 rfl) ?_
    exact W.iret (v := y.2) hx hb hr (fun t ht hW => ⟨y.2, rfl, (by rw [show y.1 = 12 by (have := (nI_leI (a := 12) (b := y.1) (by decide) (by omega)).mp c_1; omega)] at hdl; exact hdl), ht⟩) (fun _ h => by cases h) dB_dirtyFrameOfLowestPage_57
  · have hz : y.1 < 12 := by have := mt (nI_leI (a := 12) (b := y.1) (by decide) (by omega)).mpr c_1; omega
    refine lv_aload_n hx hb dB_dirtyFrameOfLowestPage_10 rfl (lv_at hl 0 rfl) ?_
    refine va_get (D := (dC, dI)) (ci := 3) (v := .ref fa) (C := RB) (T := TB) (N := 4) hx hb hts (inC inB) hown hK hP 0 rfl rfl 2 (by decide) (hq _ wi_116) (fun _ h9 => h9) rfl dB_dirtyFrameOfLowestPage_11 ?_
    refine lv_iload_n hx hb dB_dirtyFrameOfLowestPage_14 rfl (lv_at hl 2 rfl) ?_
    refine tk_aald (n := y.1) (y := fr y.1) hx hb hK hP 4 1 rfl rfl rfl hz (by decide) rfl dB_dirtyFrameOfLowestPage_15 ?_
    refine va_getN (D := (dC, dI)) (ci := 1) (v := .int (di y.1)) (C := RF) (T := TF) (N := 5) hx hb hts (inC inF) hown hK hP (5 + y.1) (dw_fr hz) rfl 4 (by decide) (va_Nw.use rfl (hN _ ns_12)) (fun _ h9 => h9) rfl dB_dirtyFrameOfLowestPage_16 ?_
    refine lv_if_eq (tgt := 50) hx hb dB_dirtyFrameOfLowestPage_19 (by decide) (fun c_2 => ?_) (fun c_2 => ?_)
    · refine lv_iinc (v := ((nI y.1) + 1)) (lv' := [(2, .int ((nI y.1) + 1)), (0, .ref h), (1, .int (y.2))]) hx hb dB_dirtyFrameOfLowestPage_50 hl (k := 2) rfl rfl (by decide) rfl (fun ls hl => ?_)
      refine lv_goto (tgt := 4) hx hb dB_dirtyFrameOfLowestPage_53 (by decide) ?_
      exact ih (n - 1) (y.1 + 1, y.2) _ _ _ (by omega) ⟨rfl, rfl, by omega, by omega, dlR_clean hdl c_2, hP, lv_sub hl [1, 2, 0] (by rw [← nI_1 y.1]; rfl)⟩
    · refine lv_iload_n hx hb dB_dirtyFrameOfLowestPage_22 rfl (lv_at hl 1 rfl) ?_
      refine lv_iconst (v := (-1)) hx hb dB_dirtyFrameOfLowestPage_23 (by decide) ?_
      refine lv_icmp_eq (tgt := 48) hx hb dB_dirtyFrameOfLowestPage_24 (by decide) (fun c_3 => ?_) (fun c_3 => ?_)
      · refine lv_iload_n hx hb dB_dirtyFrameOfLowestPage_48 rfl (lv_at hl 2 rfl) ?_
        refine lv_istore_n (lv' := [(1, .int (nI y.1)), (0, .ref h), (2, .int (nI y.1))]) hx hb dB_dirtyFrameOfLowestPage_49 rfl hl (by decide) rfl (fun ls hl => ?_)
        refine lv_iinc (v := ((nI y.1) + 1)) (lv' := [(2, .int ((nI y.1) + 1)), (1, .int (nI y.1)), (0, .ref h)]) hx hb dB_dirtyFrameOfLowestPage_50 hl (k := 2) rfl rfl (by decide) rfl (fun ls hl => ?_)
        refine lv_goto (tgt := 4) hx hb dB_dirtyFrameOfLowestPage_53 (by decide) ?_
        exact ih (n - 1) (y.1 + 1, (nI y.1)) _ _ _ (by omega) ⟨rfl, rfl, by omega, by omega, dlR_first (c_3 ▸ hdl) hz c_2, hP, lv_sub hl [2, 1, 0] (by rw [← nI_1 y.1]; rfl)⟩
      · obtain ⟨i2, hi2, er⟩ := (dlR_is hdl).resolve_left c_3
        refine lv_aload_n hx hb dB_dirtyFrameOfLowestPage_27 rfl (lv_at hl 0 rfl) ?_
        refine va_get (D := (dC, dI)) (ci := 3) (v := .ref fa) (C := RB) (T := TB) (N := 4) hx hb hts (inC inB) hown hK hP 0 rfl rfl 2 (by decide) (hq _ wi_116) (fun _ h9 => h9) rfl dB_dirtyFrameOfLowestPage_28 ?_
        refine lv_iload_n hx hb dB_dirtyFrameOfLowestPage_31 rfl (lv_at hl 2 rfl) ?_
        refine tk_aald (n := y.1) (y := fr y.1) hx hb hK hP 4 1 rfl rfl rfl hz (by decide) rfl dB_dirtyFrameOfLowestPage_32 ?_
        refine va_getN (D := (dC, dI)) (ci := 1) (v := .int (pg y.1)) (C := RF) (T := TF) (N := 5) hx hb hts (inC inF) hown hK hP (5 + y.1) (dw_fr hz) rfl 1 (by decide) (va_Nw.use rfl (hN _ ns_9)) (fun _ h9 => h9) rfl dB_dirtyFrameOfLowestPage_33 ?_
        refine lv_aload_n hx hb dB_dirtyFrameOfLowestPage_36 rfl (lv_at hl 0 rfl) ?_
        refine va_get (D := (dC, dI)) (ci := 3) (v := .ref fa) (C := RB) (T := TB) (N := 4) hx hb hts (inC inB) hown hK hP 0 rfl rfl 2 (by decide) (hq _ wi_116) (fun _ h9 => h9) rfl dB_dirtyFrameOfLowestPage_37 ?_
        refine lv_iload_n hx hb dB_dirtyFrameOfLowestPage_40 rfl (lv_at hl 1 rfl) ?_
        refine tk_aald (n := i2) (y := fr i2) hx hb hK hP 4 1 rfl rfl er (by omega) (by decide) rfl dB_dirtyFrameOfLowestPage_41 ?_
        refine va_getN (D := (dC, dI)) (ci := 1) (v := .int (pg i2)) (C := RF) (T := TF) (N := 5) hx hb hts (inC inF) hown hK hP (5 + i2) (dw_fr (by omega)) rfl 1 (by decide) (va_Nw.use rfl (hN _ ns_9)) (fun _ h9 => h9) rfl dB_dirtyFrameOfLowestPage_42 ?_
        refine lv_icmp_ge (tgt := 50) hx hb dB_dirtyFrameOfLowestPage_45 (by decide) (fun c_4 => ?_) (fun c_4 => ?_)
        · refine lv_iinc (v := ((nI y.1) + 1)) (lv' := [(2, .int ((nI y.1) + 1)), (0, .ref h), (1, .int (y.2))]) hx hb dB_dirtyFrameOfLowestPage_50 hl (k := 2) rfl rfl (by decide) rfl (fun ls hl => ?_)
          refine lv_goto (tgt := 4) hx hb dB_dirtyFrameOfLowestPage_53 (by decide) ?_
          exact ih (n - 1) (y.1 + 1, y.2) _ _ _ (by omega) ⟨rfl, rfl, by omega, by omega, (by have h9 := hdl; rw [er] at h9 ⊢; exact dlR_keep h9 hz (by omega) (fun h => absurd h (Int32.not_lt.mpr c_4))), hP, lv_sub hl [1, 2, 0] (by rw [← nI_1 y.1]; rfl)⟩
        · refine lv_iload_n hx hb dB_dirtyFrameOfLowestPage_48 rfl (lv_at hl 2 rfl) ?_
          refine lv_istore_n (lv' := [(1, .int (nI y.1)), (0, .ref h), (2, .int (nI y.1))]) hx hb dB_dirtyFrameOfLowestPage_49 rfl hl (by decide) rfl (fun ls hl => ?_)
          refine lv_iinc (v := ((nI y.1) + 1)) (lv' := [(2, .int ((nI y.1) + 1)), (1, .int (nI y.1)), (0, .ref h)]) hx hb dB_dirtyFrameOfLowestPage_50 hl (k := 2) rfl rfl (by decide) rfl (fun ls hl => ?_)
          refine lv_goto (tgt := 4) hx hb dB_dirtyFrameOfLowestPage_53 (by decide) ?_
          exact ih (n - 1) (y.1 + 1, (nI y.1)) _ _ _ (by omega) ⟨rfl, rfl, by omega, by omega, dlR_less (er ▸ hdl) hz (by omega) c_2 (Int32.not_le.mp c_4), hP, lv_sub hl [2, 1, 0] (by rw [← nI_1 y.1]; rfl)⟩
end
section
set_option maxHeartbeats 4000000 in
set_option maxRecDepth 100000 in
theorem c_B_get_f0 (l : Launch) (dC : Nat → ClassId) (dI : Nat → Nat → Nat) (ka : Nat → ClassId) (h dr db lg fa : Nat) (fr fb : Nat → Nat) (pg pn us di : Nat → Int32) (bt : Nat → Nat → Int32) (dk : Nat → Int32) (lf wn rd en fl hd : Int32) (x y : Int32) (hx0 : x < 0 ∨ nI 12 ≤ x) : Met l yB_get wB_get ({ frames := 1, cells := 0, slots := 0, locals := 20 }) (va_Pc [.ref h, .int x, .int y] (fun U => tk_E dC dI ka U ∧ va_P (dC, dI) clB (dw h dr db lg fa fr fb ka pg pn us di bt dk lf wn rd en fl hd) U.heap)) (vp_Si (fun r => r = -1)) 0 0 (fun _ => False) := by
  refine Met.ofW (cc := cB_get) (maxL := 3) (ret := (some .int)) (by decide) rfl ?_
  intro p e s m args below meth c s₁ B hml hv
  obtain ⟨rfl, hE, hP⟩ := hv
  have hx := B.exec
  have hb := B.bytes
  have hr := B.returns
  have hts := atoms_spec (ws := wB_get) B.pre
  have hq : ∀ w ∈ lwg, w.before _ s = true := fun w h => hts w (List.mem_cons_of_mem _ h)
  have hown : s.vm.findClass RB = some m.cls := findClass_of_methodNamed B.named
  have hlocks := B.notSynchronized
  have hK := hE.1
  have hN := hE.2
  have hP : va_P (dC, dI) clB (dw h dr db lg fa fr fb ka pg pn us di bt dk lf wn rd en fl hd) s.heap := hP
  have hl := lv_entry ([.ref h, .int x, .int y]) (n := 3) (Nat.le_of_ble_eq_true rfl)
  rw [lg_entry_eq]
  generalize (lg_sl ([.ref h, .int x, .int y]) ++ List.replicate (3 - (lg_sl ([.ref h, .int x, .int y])).length) Slot.unset).toArray = ls at hl ⊢
  have hl : lv_has ls 3 [(0, .ref h), (1, .int x), (2, .int y)] := hl
  refine lv_iload_n hx hb dB_get_0 rfl (lv_at hl 1 rfl) ?_
  refine vp_callSi (va_Run.run (va_runS (As := [.int x]) (rest := []) ⟨hx, hb, hml, hown, hts⟩ (c_B_isFrame l dC dI ka x) (cwS 1 hts (tw_S wi_131 wi_132 wi_24 wi_133) rfl rfl rfl (by decide +kernel) ⟨Nat.le_of_ble_eq_true rfl, Nat.le_of_ble_eq_true rfl⟩) ⟨fun a U g mk q => ⟨q.1, tk_E.call q.2.1, q.2.2⟩, fun U hU hW => ⟨rfl, tk_E.warm hW hE, by rw [hU]; exact (fun k q h => by simp at h)⟩⟩ rfl rfl hl.1 rfl (lv_room (Nat.le_of_ble_eq_true rfl)) dB_get_1 ⟨Nat.zero_le _, Nat.zero_le _⟩)) (fun r_1 er_1 => ?_)
  replace er_1 := er_1.trans (tk_is0 (N := 12) hx0)
  subst er_1
  refine lv_if_eq (tgt := 26) hx hb dB_get_4 (by decide) (fun c_2 => ?_) (fun c_2 => ?_)
  · refine lv_iconst (v := (-1)) hx hb dB_get_26 (by decide) ?_
    exact W.iret (v := (-1)) hx hb hr (fun t ht hW => ⟨(-1), rfl, rfl, ht⟩) (fun _ h => by cases h) dB_get_27
  · exact absurd c_2 (by decide)

set_option maxHeartbeats 4000000 in
set_option maxRecDepth 100000 in
theorem c_B_get_b0 (l : Launch) (dC : Nat → ClassId) (dI : Nat → Nat → Nat) (ka : Nat → ClassId) (h dr db lg fa : Nat) (fr fb : Nat → Nat) (pg pn us di : Nat → Int32) (bt : Nat → Nat → Int32) (dk : Nat → Int32) (lf wn rd en fl hd : Int32) (x y : Int32) (n : Nat) (ex : x = nI n) (hn : n < 12) (hy0 : y < 0 ∨ nI 512 ≤ y) : Met l yB_get wB_get ({ frames := 1, cells := 0, slots := 0, locals := 20 }) (va_Pc [.ref h, .int x, .int y] (fun U => tk_E dC dI ka U ∧ va_P (dC, dI) clB (dw h dr db lg fa fr fb ka pg pn us di bt dk lf wn rd en fl hd) U.heap)) (vp_Si (fun r => r = -1)) 0 0 (fun _ => False) := by
  refine Met.ofW (cc := cB_get) (maxL := 3) (ret := (some .int)) (by decide) rfl ?_
  intro p e s m args below meth c s₁ B hml hv
  obtain ⟨rfl, hE, hP⟩ := hv
  have hx := B.exec
  have hb := B.bytes
  have hr := B.returns
  have hts := atoms_spec (ws := wB_get) B.pre
  have hq : ∀ w ∈ lwg, w.before _ s = true := fun w h => hts w (List.mem_cons_of_mem _ h)
  have hown : s.vm.findClass RB = some m.cls := findClass_of_methodNamed B.named
  have hlocks := B.notSynchronized
  have hK := hE.1
  have hN := hE.2
  have hP : va_P (dC, dI) clB (dw h dr db lg fa fr fb ka pg pn us di bt dk lf wn rd en fl hd) s.heap := hP
  have hl := lv_entry ([.ref h, .int x, .int y]) (n := 3) (Nat.le_of_ble_eq_true rfl)
  rw [lg_entry_eq]
  generalize (lg_sl ([.ref h, .int x, .int y]) ++ List.replicate (3 - (lg_sl ([.ref h, .int x, .int y])).length) Slot.unset).toArray = ls at hl ⊢
  have hl : lv_has ls 3 [(0, .ref h), (1, .int x), (2, .int y)] := hl
  refine lv_iload_n hx hb dB_get_0 rfl (lv_at hl 1 rfl) ?_
  refine vp_callSi (va_Run.run (va_runS (As := [.int x]) (rest := []) ⟨hx, hb, hml, hown, hts⟩ (c_B_isFrame l dC dI ka x) (cwS 1 hts (tw_S wi_131 wi_132 wi_24 wi_133) rfl rfl rfl (by decide +kernel) ⟨Nat.le_of_ble_eq_true rfl, Nat.le_of_ble_eq_true rfl⟩) ⟨fun a U g mk q => ⟨q.1, tk_E.call q.2.1, q.2.2⟩, fun U hU hW => ⟨rfl, tk_E.warm hW hE, by rw [hU]; exact (fun k q h => by simp at h)⟩⟩ rfl rfl hl.1 rfl (lv_room (Nat.le_of_ble_eq_true rfl)) dB_get_1 ⟨Nat.zero_le _, Nat.zero_le _⟩)) (fun r_1 er_1 => ?_)
  replace er_1 := er_1.trans (tk_is1 (N := 12) ex hn (by decide))
  subst er_1
  refine lv_if_eq (tgt := 26) hx hb dB_get_4 (by decide) (fun c_2 => ?_) (fun c_2 => ?_)
  · exact absurd c_2 (by decide)
  · refine lv_iload_n hx hb dB_get_7 rfl (lv_at hl 2 rfl) ?_
    refine vp_callSi (va_Run.run (va_runS (As := [.int y]) (rest := []) ⟨hx, hb, hml, hown, hts⟩ (c_B_isByte l dC dI ka y) (cwS 1 hts (tw_S wi_146 wi_147 wi_24 wi_148) rfl rfl rfl (by decide +kernel) ⟨Nat.le_of_ble_eq_true rfl, Nat.le_of_ble_eq_true rfl⟩) ⟨fun a U g mk q => ⟨q.1, tk_E.call q.2.1, q.2.2⟩, fun U hU hW => ⟨rfl, tk_E.warm hW hE, by rw [hU]; exact (fun k q h => by simp at h)⟩⟩ rfl rfl hl.1 rfl (lv_room (Nat.le_of_ble_eq_true rfl)) dB_get_8 ⟨Nat.zero_le _, Nat.zero_le _⟩)) (fun r_3 er_3 => ?_)
    replace er_3 := er_3.trans (tk_is0 (N := 512) hy0)
    subst er_3
    refine lv_if_eq (tgt := 26) hx hb dB_get_11 (by decide) (fun c_4 => ?_) (fun c_4 => ?_)
    · refine lv_iconst (v := (-1)) hx hb dB_get_26 (by decide) ?_
      exact W.iret (v := (-1)) hx hb hr (fun t ht hW => ⟨(-1), rfl, rfl, ht⟩) (fun _ h => by cases h) dB_get_27
    · exact absurd c_4 (by decide)

set_option maxHeartbeats 4000000 in
set_option maxRecDepth 100000 in
theorem c_B_get_e0 (l : Launch) (dC : Nat → ClassId) (dI : Nat → Nat → Nat) (ka : Nat → ClassId) (h dr db lg fa : Nat) (fr fb : Nat → Nat) (pg pn us di : Nat → Int32) (bt : Nat → Nat → Int32) (dk : Nat → Int32) (lf wn rd en fl hd : Int32) (x y : Int32) (n k : Nat) (ex : x = nI n) (hn : n < 12) (ey : y = nI k) (hk : k < 512) (he : pg n = -1) : Met l yB_get wB_get ({ frames := 1, cells := 0, slots := 0, locals := 20 }) (va_Pc [.ref h, .int x, .int y] (fun U => tk_E dC dI ka U ∧ va_P (dC, dI) clB (dw h dr db lg fa fr fb ka pg pn us di bt dk lf wn rd en fl hd) U.heap)) (vp_Si (fun r => r = -1)) 0 0 (fun _ => False) := by
  refine Met.ofW (cc := cB_get) (maxL := 3) (ret := (some .int)) (by decide) rfl ?_
  intro p e s m args below meth c s₁ B hml hv
  obtain ⟨rfl, hE, hP⟩ := hv
  have hx := B.exec
  have hb := B.bytes
  have hr := B.returns
  have hts := atoms_spec (ws := wB_get) B.pre
  have hq : ∀ w ∈ lwg, w.before _ s = true := fun w h => hts w (List.mem_cons_of_mem _ h)
  have hown : s.vm.findClass RB = some m.cls := findClass_of_methodNamed B.named
  have hlocks := B.notSynchronized
  have hK := hE.1
  have hN := hE.2
  have hP : va_P (dC, dI) clB (dw h dr db lg fa fr fb ka pg pn us di bt dk lf wn rd en fl hd) s.heap := hP
  have hl := lv_entry ([.ref h, .int x, .int y]) (n := 3) (Nat.le_of_ble_eq_true rfl)
  rw [lg_entry_eq]
  generalize (lg_sl ([.ref h, .int x, .int y]) ++ List.replicate (3 - (lg_sl ([.ref h, .int x, .int y])).length) Slot.unset).toArray = ls at hl ⊢
  have hl : lv_has ls 3 [(0, .ref h), (1, .int x), (2, .int y)] := hl
  refine lv_iload_n hx hb dB_get_0 rfl (lv_at hl 1 rfl) ?_
  refine vp_callSi (va_Run.run (va_runS (As := [.int x]) (rest := []) ⟨hx, hb, hml, hown, hts⟩ (c_B_isFrame l dC dI ka x) (cwS 1 hts (tw_S wi_131 wi_132 wi_24 wi_133) rfl rfl rfl (by decide +kernel) ⟨Nat.le_of_ble_eq_true rfl, Nat.le_of_ble_eq_true rfl⟩) ⟨fun a U g mk q => ⟨q.1, tk_E.call q.2.1, q.2.2⟩, fun U hU hW => ⟨rfl, tk_E.warm hW hE, by rw [hU]; exact (fun k q h => by simp at h)⟩⟩ rfl rfl hl.1 rfl (lv_room (Nat.le_of_ble_eq_true rfl)) dB_get_1 ⟨Nat.zero_le _, Nat.zero_le _⟩)) (fun r_1 er_1 => ?_)
  replace er_1 := er_1.trans (tk_is1 (N := 12) ex hn (by decide))
  subst er_1
  refine lv_if_eq (tgt := 26) hx hb dB_get_4 (by decide) (fun c_2 => ?_) (fun c_2 => ?_)
  · exact absurd c_2 (by decide)
  · refine lv_iload_n hx hb dB_get_7 rfl (lv_at hl 2 rfl) ?_
    refine vp_callSi (va_Run.run (va_runS (As := [.int y]) (rest := []) ⟨hx, hb, hml, hown, hts⟩ (c_B_isByte l dC dI ka y) (cwS 1 hts (tw_S wi_146 wi_147 wi_24 wi_148) rfl rfl rfl (by decide +kernel) ⟨Nat.le_of_ble_eq_true rfl, Nat.le_of_ble_eq_true rfl⟩) ⟨fun a U g mk q => ⟨q.1, tk_E.call q.2.1, q.2.2⟩, fun U hU hW => ⟨rfl, tk_E.warm hW hE, by rw [hU]; exact (fun k q h => by simp at h)⟩⟩ rfl rfl hl.1 rfl (lv_room (Nat.le_of_ble_eq_true rfl)) dB_get_8 ⟨Nat.zero_le _, Nat.zero_le _⟩)) (fun r_3 er_3 => ?_)
    replace er_3 := er_3.trans (tk_is1 (N := 512) ey hk (by decide))
    subst er_3
    refine lv_if_eq (tgt := 26) hx hb dB_get_11 (by decide) (fun c_4 => ?_) (fun c_4 => ?_)
    · exact absurd c_4 (by decide)
    · refine lv_aload_n hx hb dB_get_14 rfl (lv_at hl 0 rfl) ?_
      refine va_get (D := (dC, dI)) (ci := 3) (v := .ref fa) (C := RB) (T := TB) (N := 4) hx hb hts (inC inB) hown hK hP 0 rfl rfl 2 (by decide) (hq _ wi_116) (fun _ h9 => h9) rfl dB_get_15 ?_
      refine lv_iload_n hx hb dB_get_18 rfl (lv_at hl 1 rfl) ?_
      refine tk_aald (n := n) (y := fr n) hx hb hK hP 4 1 rfl rfl ex hn (by decide) rfl dB_get_19 ?_
      refine vp_callSi (va_Run.run (va_runV (As := []) (rest := []) ⟨hx, hb, hml, hown, hts⟩ (c_F_isEmpty l dC dI ka (fr n) (fb n) (pg n) (pn n) (us n) (di n)) (cwV 0 hts (tw_V wi_149 wi_150 wi_151 wi_27 wi_152) rfl rfl rfl (by decide +kernel) ⟨Nat.le_of_ble_eq_true rfl, Nat.le_of_ble_eq_true rfl⟩) ⟨fun a U g mk q => ⟨q.1, tk_E.call q.2.1, q.2.2⟩, va_recv hK hP (ci := 1) (q0 := (5 + n)) rfl (dw_fr hn), fun U hU hW => ⟨rfl, tk_E.warm hW hE, by rw [hU]; exact (tk_one hP (k := 5 + n) (dw_fr hn))⟩⟩ rfl rfl hl.1 rfl (lv_room (Nat.le_of_ble_eq_true rfl)) dB_get_20 ⟨Nat.zero_le _, Nat.zero_le _⟩)) (fun r_5 er_5 => ?_)
      replace er_5 := er_5.trans (if_pos he)
      subst er_5
      refine lv_if_eq (tgt := 28) hx hb dB_get_23 (by decide) (fun c_6 => ?_) (fun c_6 => ?_)
      · exact absurd c_6 (by decide)
      · refine lv_iconst (v := (-1)) hx hb dB_get_26 (by decide) ?_
        exact W.iret (v := (-1)) hx hb hr (fun t ht hW => ⟨(-1), rfl, rfl, ht⟩) (fun _ h => by cases h) dB_get_27

set_option maxHeartbeats 4000000 in
set_option maxRecDepth 100000 in
theorem c_B_get_in (l : Launch) (dC : Nat → ClassId) (dI : Nat → Nat → Nat) (ka : Nat → ClassId) (h dr db lg fa : Nat) (fr fb : Nat → Nat) (pg pn us di : Nat → Int32) (bt : Nat → Nat → Int32) (dk : Nat → Int32) (lf wn rd en fl hd : Int32) (x y : Int32) (n k : Nat) (ex : x = nI n) (hn : n < 12) (ey : y = nI k) (hk : k < 512) (he : ¬ pg n = -1) : Met l yB_get wB_get ({ frames := 1, cells := 0, slots := 0, locals := 20 }) (va_Pc [.ref h, .int x, .int y] (fun U => tk_E dC dI ka U ∧ va_P (dC, dI) clB (dw h dr db lg fa fr fb ka pg pn us di bt dk lf wn rd en fl hd) U.heap)) (vp_Si (fun r => r = bt n k &&& 255)) 0 0 (fun _ => False) := by
  refine Met.ofW (cc := cB_get) (maxL := 3) (ret := (some .int)) (by decide) rfl ?_
  intro p e s m args below meth c s₁ B hml hv
  obtain ⟨rfl, hE, hP⟩ := hv
  have hx := B.exec
  have hb := B.bytes
  have hr := B.returns
  have hts := atoms_spec (ws := wB_get) B.pre
  have hq : ∀ w ∈ lwg, w.before _ s = true := fun w h => hts w (List.mem_cons_of_mem _ h)
  have hown : s.vm.findClass RB = some m.cls := findClass_of_methodNamed B.named
  have hlocks := B.notSynchronized
  have hK := hE.1
  have hN := hE.2
  have hP : va_P (dC, dI) clB (dw h dr db lg fa fr fb ka pg pn us di bt dk lf wn rd en fl hd) s.heap := hP
  have hl := lv_entry ([.ref h, .int x, .int y]) (n := 3) (Nat.le_of_ble_eq_true rfl)
  rw [lg_entry_eq]
  generalize (lg_sl ([.ref h, .int x, .int y]) ++ List.replicate (3 - (lg_sl ([.ref h, .int x, .int y])).length) Slot.unset).toArray = ls at hl ⊢
  have hl : lv_has ls 3 [(0, .ref h), (1, .int x), (2, .int y)] := hl
  refine lv_iload_n hx hb dB_get_0 rfl (lv_at hl 1 rfl) ?_
  refine vp_callSi (va_Run.run (va_runS (As := [.int x]) (rest := []) ⟨hx, hb, hml, hown, hts⟩ (c_B_isFrame l dC dI ka x) (cwS 1 hts (tw_S wi_131 wi_132 wi_24 wi_133) rfl rfl rfl (by decide +kernel) ⟨Nat.le_of_ble_eq_true rfl, Nat.le_of_ble_eq_true rfl⟩) ⟨fun a U g mk q => ⟨q.1, tk_E.call q.2.1, q.2.2⟩, fun U hU hW => ⟨rfl, tk_E.warm hW hE, by rw [hU]; exact (fun k q h => by simp at h)⟩⟩ rfl rfl hl.1 rfl (lv_room (Nat.le_of_ble_eq_true rfl)) dB_get_1 ⟨Nat.zero_le _, Nat.zero_le _⟩)) (fun r_1 er_1 => ?_)
  replace er_1 := er_1.trans (tk_is1 (N := 12) ex hn (by decide))
  subst er_1
  refine lv_if_eq (tgt := 26) hx hb dB_get_4 (by decide) (fun c_2 => ?_) (fun c_2 => ?_)
  · exact absurd c_2 (by decide)
  · refine lv_iload_n hx hb dB_get_7 rfl (lv_at hl 2 rfl) ?_
    refine vp_callSi (va_Run.run (va_runS (As := [.int y]) (rest := []) ⟨hx, hb, hml, hown, hts⟩ (c_B_isByte l dC dI ka y) (cwS 1 hts (tw_S wi_146 wi_147 wi_24 wi_148) rfl rfl rfl (by decide +kernel) ⟨Nat.le_of_ble_eq_true rfl, Nat.le_of_ble_eq_true rfl⟩) ⟨fun a U g mk q => ⟨q.1, tk_E.call q.2.1, q.2.2⟩, fun U hU hW => ⟨rfl, tk_E.warm hW hE, by rw [hU]; exact (fun k q h => by simp at h)⟩⟩ rfl rfl hl.1 rfl (lv_room (Nat.le_of_ble_eq_true rfl)) dB_get_8 ⟨Nat.zero_le _, Nat.zero_le _⟩)) (fun r_3 er_3 => ?_)
    replace er_3 := er_3.trans (tk_is1 (N := 512) ey hk (by decide))
    subst er_3
    refine lv_if_eq (tgt := 26) hx hb dB_get_11 (by decide) (fun c_4 => ?_) (fun c_4 => ?_)
    · exact absurd c_4 (by decide)
    · refine lv_aload_n hx hb dB_get_14 rfl (lv_at hl 0 rfl) ?_
      refine va_get (D := (dC, dI)) (ci := 3) (v := .ref fa) (C := RB) (T := TB) (N := 4) hx hb hts (inC inB) hown hK hP 0 rfl rfl 2 (by decide) (hq _ wi_116) (fun _ h9 => h9) rfl dB_get_15 ?_
      refine lv_iload_n hx hb dB_get_18 rfl (lv_at hl 1 rfl) ?_
      refine tk_aald (n := n) (y := fr n) hx hb hK hP 4 1 rfl rfl ex hn (by decide) rfl dB_get_19 ?_
      refine vp_callSi (va_Run.run (va_runV (As := []) (rest := []) ⟨hx, hb, hml, hown, hts⟩ (c_F_isEmpty l dC dI ka (fr n) (fb n) (pg n) (pn n) (us n) (di n)) (cwV 0 hts (tw_V wi_149 wi_150 wi_151 wi_27 wi_152) rfl rfl rfl (by decide +kernel) ⟨Nat.le_of_ble_eq_true rfl, Nat.le_of_ble_eq_true rfl⟩) ⟨fun a U g mk q => ⟨q.1, tk_E.call q.2.1, q.2.2⟩, va_recv hK hP (ci := 1) (q0 := (5 + n)) rfl (dw_fr hn), fun U hU hW => ⟨rfl, tk_E.warm hW hE, by rw [hU]; exact (tk_one hP (k := 5 + n) (dw_fr hn))⟩⟩ rfl rfl hl.1 rfl (lv_room (Nat.le_of_ble_eq_true rfl)) dB_get_20 ⟨Nat.zero_le _, Nat.zero_le _⟩)) (fun r_5 er_5 => ?_)
      replace er_5 := er_5.trans (if_neg he)
      subst er_5
      refine lv_if_eq (tgt := 28) hx hb dB_get_23 (by decide) (fun c_6 => ?_) (fun c_6 => ?_)
      · refine lv_aload_n hx hb dB_get_28 rfl (lv_at hl 0 rfl) ?_
        refine va_get (D := (dC, dI)) (ci := 3) (v := .ref fa) (C := RB) (T := TB) (N := 4) hx hb hts (inC inB) hown hK hP 0 rfl rfl 2 (by decide) (hq _ wi_116) (fun _ h9 => h9) rfl dB_get_29 ?_
        refine lv_iload_n hx hb dB_get_32 rfl (lv_at hl 1 rfl) ?_
        refine tk_aald (n := n) (y := fr n) hx hb hK hP 4 1 rfl rfl ex hn (by decide) rfl dB_get_33 ?_
        refine va_getN (D := (dC, dI)) (ci := 1) (v := .ref (fb n)) (C := RF) (T := TF) (N := 5) hx hb hts (inC inF) hown hK hP (5 + n) (dw_fr hn) rfl 0 (by decide) (va_Nw.use rfl (hN _ ns_8)) (fun _ h9 => h9) rfl dB_get_34 ?_
        refine lv_iload_n hx hb dB_get_37 rfl (lv_at hl 2 rfl) ?_
        refine tk_bald (n := k) hx hb hK hP (17 + n) 0 (dw_fb hn) rfl ey hk (by decide) dB_get_38 ?_
        refine lv_sipush (v := 255) hx hb dB_get_39 (by decide) ?_
        refine lv_iand hx hb dB_get_42 ?_
        exact W.iret (v := (((bt n) k) &&& 255)) hx hb hr (fun t ht hW => ⟨(((bt n) k) &&& 255), rfl, rfl, ht⟩) (fun _ h => by cases h) dB_get_43
      · exact absurd c_6 (by decide)

set_option maxHeartbeats 4000000 in
set_option maxRecDepth 100000 in
theorem c_B_disk_p0 (l : Launch) (dC : Nat → ClassId) (dI : Nat → Nat → Nat) (ka : Nat → ClassId) (h dr db lg fa : Nat) (fr fb : Nat → Nat) (pg pn us di : Nat → Int32) (bt : Nat → Nat → Int32) (dk : Nat → Int32) (lf wn rd en fl hd : Int32) (x y : Int32) (hx0 : x < 0 ∨ nI 192 ≤ x) : Met l yB_disk wB_disk ({ frames := 1, cells := 0, slots := 0, locals := 20 }) (va_Pc [.ref h, .int x, .int y] (fun U => tk_E dC dI ka U ∧ va_P (dC, dI) clB (dw h dr db lg fa fr fb ka pg pn us di bt dk lf wn rd en fl hd) U.heap)) (vp_Si (fun r => r = -1)) 0 0 (fun _ => False) := by
  refine Met.ofW (cc := cB_disk) (maxL := 3) (ret := (some .int)) (by decide) rfl ?_
  intro p e s m args below meth c s₁ B hml hv
  obtain ⟨rfl, hE, hP⟩ := hv
  have hx := B.exec
  have hb := B.bytes
  have hr := B.returns
  have hts := atoms_spec (ws := wB_disk) B.pre
  have hq : ∀ w ∈ lwg, w.before _ s = true := fun w h => hts w (List.mem_cons_of_mem _ h)
  have hown : s.vm.findClass RB = some m.cls := findClass_of_methodNamed B.named
  have hlocks := B.notSynchronized
  have hK := hE.1
  have hN := hE.2
  have hP : va_P (dC, dI) clB (dw h dr db lg fa fr fb ka pg pn us di bt dk lf wn rd en fl hd) s.heap := hP
  have hl := lv_entry ([.ref h, .int x, .int y]) (n := 3) (Nat.le_of_ble_eq_true rfl)
  rw [lg_entry_eq]
  generalize (lg_sl ([.ref h, .int x, .int y]) ++ List.replicate (3 - (lg_sl ([.ref h, .int x, .int y])).length) Slot.unset).toArray = ls at hl ⊢
  have hl : lv_has ls 3 [(0, .ref h), (1, .int x), (2, .int y)] := hl
  refine lv_iload_n hx hb dB_disk_0 rfl (lv_at hl 1 rfl) ?_
  refine vp_callSi (va_Run.run (va_runS (As := [.int x]) (rest := []) ⟨hx, hb, hml, hown, hts⟩ (c_B_isPage l dC dI ka x) (cwS 1 hts (tw_S wi_184 wi_185 wi_24 wi_186) rfl rfl rfl (by decide +kernel) ⟨Nat.le_of_ble_eq_true rfl, Nat.le_of_ble_eq_true rfl⟩) ⟨fun a U g mk q => ⟨q.1, tk_E.call q.2.1, q.2.2⟩, fun U hU hW => ⟨rfl, tk_E.warm hW hE, by rw [hU]; exact (fun k q h => by simp at h)⟩⟩ rfl rfl hl.1 rfl (lv_room (Nat.le_of_ble_eq_true rfl)) dB_disk_1 ⟨Nat.zero_le _, Nat.zero_le _⟩)) (fun r_1 er_1 => ?_)
  replace er_1 := er_1.trans (tk_is0 (N := 192) hx0)
  subst er_1
  refine lv_if_eq (tgt := 14) hx hb dB_disk_4 (by decide) (fun c_2 => ?_) (fun c_2 => ?_)
  · refine lv_iconst (v := (-1)) hx hb dB_disk_14 (by decide) ?_
    exact W.iret (v := (-1)) hx hb hr (fun t ht hW => ⟨(-1), rfl, rfl, ht⟩) (fun _ h => by cases h) dB_disk_15
  · exact absurd c_2 (by decide)

set_option maxHeartbeats 4000000 in
set_option maxRecDepth 100000 in
theorem c_B_disk_b0 (l : Launch) (dC : Nat → ClassId) (dI : Nat → Nat → Nat) (ka : Nat → ClassId) (h dr db lg fa : Nat) (fr fb : Nat → Nat) (pg pn us di : Nat → Int32) (bt : Nat → Nat → Int32) (dk : Nat → Int32) (lf wn rd en fl hd : Int32) (x y : Int32) (n : Nat) (ex : x = nI n) (hn : n < 192) (hy0 : y < 0 ∨ nI 512 ≤ y) : Met l yB_disk wB_disk ({ frames := 1, cells := 0, slots := 0, locals := 20 }) (va_Pc [.ref h, .int x, .int y] (fun U => tk_E dC dI ka U ∧ va_P (dC, dI) clB (dw h dr db lg fa fr fb ka pg pn us di bt dk lf wn rd en fl hd) U.heap)) (vp_Si (fun r => r = -1)) 0 0 (fun _ => False) := by
  refine Met.ofW (cc := cB_disk) (maxL := 3) (ret := (some .int)) (by decide) rfl ?_
  intro p e s m args below meth c s₁ B hml hv
  obtain ⟨rfl, hE, hP⟩ := hv
  have hx := B.exec
  have hb := B.bytes
  have hr := B.returns
  have hts := atoms_spec (ws := wB_disk) B.pre
  have hq : ∀ w ∈ lwg, w.before _ s = true := fun w h => hts w (List.mem_cons_of_mem _ h)
  have hown : s.vm.findClass RB = some m.cls := findClass_of_methodNamed B.named
  have hlocks := B.notSynchronized
  have hK := hE.1
  have hN := hE.2
  have hP : va_P (dC, dI) clB (dw h dr db lg fa fr fb ka pg pn us di bt dk lf wn rd en fl hd) s.heap := hP
  have hl := lv_entry ([.ref h, .int x, .int y]) (n := 3) (Nat.le_of_ble_eq_true rfl)
  rw [lg_entry_eq]
  generalize (lg_sl ([.ref h, .int x, .int y]) ++ List.replicate (3 - (lg_sl ([.ref h, .int x, .int y])).length) Slot.unset).toArray = ls at hl ⊢
  have hl : lv_has ls 3 [(0, .ref h), (1, .int x), (2, .int y)] := hl
  refine lv_iload_n hx hb dB_disk_0 rfl (lv_at hl 1 rfl) ?_
  refine vp_callSi (va_Run.run (va_runS (As := [.int x]) (rest := []) ⟨hx, hb, hml, hown, hts⟩ (c_B_isPage l dC dI ka x) (cwS 1 hts (tw_S wi_184 wi_185 wi_24 wi_186) rfl rfl rfl (by decide +kernel) ⟨Nat.le_of_ble_eq_true rfl, Nat.le_of_ble_eq_true rfl⟩) ⟨fun a U g mk q => ⟨q.1, tk_E.call q.2.1, q.2.2⟩, fun U hU hW => ⟨rfl, tk_E.warm hW hE, by rw [hU]; exact (fun k q h => by simp at h)⟩⟩ rfl rfl hl.1 rfl (lv_room (Nat.le_of_ble_eq_true rfl)) dB_disk_1 ⟨Nat.zero_le _, Nat.zero_le _⟩)) (fun r_1 er_1 => ?_)
  replace er_1 := er_1.trans (tk_is1 (N := 192) ex hn (by decide))
  subst er_1
  refine lv_if_eq (tgt := 14) hx hb dB_disk_4 (by decide) (fun c_2 => ?_) (fun c_2 => ?_)
  · exact absurd c_2 (by decide)
  · refine lv_iload_n hx hb dB_disk_7 rfl (lv_at hl 2 rfl) ?_
    refine vp_callSi (va_Run.run (va_runS (As := [.int y]) (rest := []) ⟨hx, hb, hml, hown, hts⟩ (c_B_isByte l dC dI ka y) (cwS 1 hts (tw_S wi_146 wi_147 wi_24 wi_148) rfl rfl rfl (by decide +kernel) ⟨Nat.le_of_ble_eq_true rfl, Nat.le_of_ble_eq_true rfl⟩) ⟨fun a U g mk q => ⟨q.1, tk_E.call q.2.1, q.2.2⟩, fun U hU hW => ⟨rfl, tk_E.warm hW hE, by rw [hU]; exact (fun k q h => by simp at h)⟩⟩ rfl rfl hl.1 rfl (lv_room (Nat.le_of_ble_eq_true rfl)) dB_disk_8 ⟨Nat.zero_le _, Nat.zero_le _⟩)) (fun r_3 er_3 => ?_)
    replace er_3 := er_3.trans (tk_is0 (N := 512) hy0)
    subst er_3
    refine lv_if_ne (tgt := 16) hx hb dB_disk_11 (by decide) (fun c_4 => ?_) (fun c_4 => ?_)
    · exact absurd c_4 (by decide)
    · refine lv_iconst (v := (-1)) hx hb dB_disk_14 (by decide) ?_
      exact W.iret (v := (-1)) hx hb hr (fun t ht hW => ⟨(-1), rfl, rfl, ht⟩) (fun _ h => by cases h) dB_disk_15

set_option maxHeartbeats 4000000 in
set_option maxRecDepth 100000 in
theorem c_B_disk_in (l : Launch) (dC : Nat → ClassId) (dI : Nat → Nat → Nat) (ka : Nat → ClassId) (h dr db lg fa : Nat) (fr fb : Nat → Nat) (pg pn us di : Nat → Int32) (bt : Nat → Nat → Int32) (dk : Nat → Int32) (lf wn rd en fl hd : Int32) (x y : Int32) (n k : Nat) (ex : x = nI n) (hn : n < 192) (ey : y = nI k) (hk : k < 512) : Met l yB_disk wB_disk ({ frames := 1, cells := 0, slots := 0, locals := 22 }) (va_Pc [.ref h, .int x, .int y] (fun U => tk_E dC dI ka U ∧ va_P (dC, dI) clB (dw h dr db lg fa fr fb ka pg pn us di bt dk lf wn rd en fl hd) U.heap)) (vp_Si (fun r => r = dk (n * 512 + k) &&& 255)) 0 0 (fun _ => False) := by
  refine Met.ofW (cc := cB_disk) (maxL := 3) (ret := (some .int)) (by decide) rfl ?_
  intro p e s m args below meth c s₁ B hml hv
  obtain ⟨rfl, hE, hP⟩ := hv
  have hx := B.exec
  have hb := B.bytes
  have hr := B.returns
  have hts := atoms_spec (ws := wB_disk) B.pre
  have hq : ∀ w ∈ lwg, w.before _ s = true := fun w h => hts w (List.mem_cons_of_mem _ h)
  have hown : s.vm.findClass RB = some m.cls := findClass_of_methodNamed B.named
  have hlocks := B.notSynchronized
  have hK := hE.1
  have hN := hE.2
  have hP : va_P (dC, dI) clB (dw h dr db lg fa fr fb ka pg pn us di bt dk lf wn rd en fl hd) s.heap := hP
  have hl := lv_entry ([.ref h, .int x, .int y]) (n := 3) (Nat.le_of_ble_eq_true rfl)
  rw [lg_entry_eq]
  generalize (lg_sl ([.ref h, .int x, .int y]) ++ List.replicate (3 - (lg_sl ([.ref h, .int x, .int y])).length) Slot.unset).toArray = ls at hl ⊢
  have hl : lv_has ls 3 [(0, .ref h), (1, .int x), (2, .int y)] := hl
  refine lv_iload_n hx hb dB_disk_0 rfl (lv_at hl 1 rfl) ?_
  refine vp_callSi (va_Run.run (va_runS (As := [.int x]) (rest := []) ⟨hx, hb, hml, hown, hts⟩ (c_B_isPage l dC dI ka x) (cwS 1 hts (tw_S wi_184 wi_185 wi_24 wi_186) rfl rfl rfl (by decide +kernel) ⟨Nat.le_of_ble_eq_true rfl, Nat.le_of_ble_eq_true rfl⟩) ⟨fun a U g mk q => ⟨q.1, tk_E.call q.2.1, q.2.2⟩, fun U hU hW => ⟨rfl, tk_E.warm hW hE, by rw [hU]; exact (fun k q h => by simp at h)⟩⟩ rfl rfl hl.1 rfl (lv_room (Nat.le_of_ble_eq_true rfl)) dB_disk_1 ⟨Nat.zero_le _, Nat.zero_le _⟩)) (fun r_1 er_1 => ?_)
  replace er_1 := er_1.trans (tk_is1 (N := 192) ex hn (by decide))
  subst er_1
  refine lv_if_eq (tgt := 14) hx hb dB_disk_4 (by decide) (fun c_2 => ?_) (fun c_2 => ?_)
  · exact absurd c_2 (by decide)
  · refine lv_iload_n hx hb dB_disk_7 rfl (lv_at hl 2 rfl) ?_
    refine vp_callSi (va_Run.run (va_runS (As := [.int y]) (rest := []) ⟨hx, hb, hml, hown, hts⟩ (c_B_isByte l dC dI ka y) (cwS 1 hts (tw_S wi_146 wi_147 wi_24 wi_148) rfl rfl rfl (by decide +kernel) ⟨Nat.le_of_ble_eq_true rfl, Nat.le_of_ble_eq_true rfl⟩) ⟨fun a U g mk q => ⟨q.1, tk_E.call q.2.1, q.2.2⟩, fun U hU hW => ⟨rfl, tk_E.warm hW hE, by rw [hU]; exact (fun k q h => by simp at h)⟩⟩ rfl rfl hl.1 rfl (lv_room (Nat.le_of_ble_eq_true rfl)) dB_disk_8 ⟨Nat.zero_le _, Nat.zero_le _⟩)) (fun r_3 er_3 => ?_)
    replace er_3 := er_3.trans (tk_is1 (N := 512) ey hk (by decide))
    subst er_3
    refine lv_if_ne (tgt := 16) hx hb dB_disk_11 (by decide) (fun c_4 => ?_) (fun c_4 => ?_)
    · refine lv_aload_n hx hb dB_disk_16 rfl (lv_at hl 0 rfl) ?_
      refine va_get (D := (dC, dI)) (ci := 3) (v := .ref dr) (C := RB) (T := TB) (N := 4) hx hb hts (inC inB) hown hK hP 0 rfl rfl 0 (by decide) (hq _ wi_114) (fun _ h9 => h9) rfl dB_disk_17 ?_
      refine lv_iload_n hx hb dB_disk_20 rfl (lv_at hl 1 rfl) ?_
      refine lv_iload_n hx hb dB_disk_21 rfl (lv_at hl 2 rfl) ?_
      refine vp_callSi (va_Run.run (va_runV (As := [.int x, .int y]) (rest := []) ⟨hx, hb, hml, hown, hts⟩ (c_D_byteAt l dC dI ka dr db lf wn rd dk x y n k ex hn ey hk) (cwV 2 hts (tw_V wi_187 wi_188 wi_189 wi_25 wi_190) rfl rfl rfl (by decide +kernel) ⟨Nat.le_of_ble_eq_true rfl, Nat.le_of_ble_eq_true rfl⟩) ⟨fun a U g mk q => ⟨q.1, tk_E.call q.2.1, q.2.2⟩, va_recv hK hP (ci := 0) (q0 := 1) rfl rfl, fun U hU hW => ⟨rfl, tk_E.warm hW hE, by rw [hU]; exact (tk_two hP (k := 1) (k' := 2) rfl rfl)⟩⟩ rfl rfl hl.1 rfl (lv_room (Nat.le_of_ble_eq_true rfl)) dB_disk_22 ⟨Nat.zero_le _, Nat.zero_le _⟩)) (fun r_5 er_5 => ?_)
      subst er_5
      exact W.iret (v := (dk (n * 512 + k) &&& 255)) hx hb hr (fun t ht hW => ⟨(dk (n * 512 + k) &&& 255), rfl, rfl, ht⟩) (fun _ h => by cases h) dB_disk_25
    · exact absurd c_4 (by decide)

set_option maxHeartbeats 4000000 in
set_option maxRecDepth 100000 in
theorem c_B_torn_p0 (l : Launch) (dC : Nat → ClassId) (dI : Nat → Nat → Nat) (ka : Nat → ClassId) (h dr db lg fa : Nat) (fr fb : Nat → Nat) (pg pn us di : Nat → Int32) (bt : Nat → Nat → Int32) (dk : Nat → Int32) (lf wn rd en fl hd : Int32) (x : Int32) (hx0 : x < 0 ∨ nI 192 ≤ x) : Met l yB_torn wB_torn ({ frames := 1, cells := 0, slots := 0, locals := 20 }) (va_Pc [.ref h, .int x] (fun U => tk_E dC dI ka U ∧ va_P (dC, dI) clB (dw h dr db lg fa fr fb ka pg pn us di bt dk lf wn rd en fl hd) U.heap)) (vp_Si (fun r => r = 0)) 0 0 (fun _ => False) := by
  refine Met.ofW (cc := cB_torn) (maxL := 2) (ret := (some .boolean)) (by decide) rfl ?_
  intro p e s m args below meth c s₁ B hml hv
  obtain ⟨rfl, hE, hP⟩ := hv
  have hx := B.exec
  have hb := B.bytes
  have hr := B.returns
  have hts := atoms_spec (ws := wB_torn) B.pre
  have hq : ∀ w ∈ lwg, w.before _ s = true := fun w h => hts w (List.mem_cons_of_mem _ h)
  have hown : s.vm.findClass RB = some m.cls := findClass_of_methodNamed B.named
  have hlocks := B.notSynchronized
  have hK := hE.1
  have hN := hE.2
  have hP : va_P (dC, dI) clB (dw h dr db lg fa fr fb ka pg pn us di bt dk lf wn rd en fl hd) s.heap := hP
  have hl := lv_entry ([.ref h, .int x]) (n := 2) (Nat.le_of_ble_eq_true rfl)
  rw [lg_entry_eq]
  generalize (lg_sl ([.ref h, .int x]) ++ List.replicate (2 - (lg_sl ([.ref h, .int x])).length) Slot.unset).toArray = ls at hl ⊢
  have hl : lv_has ls 2 [(0, .ref h), (1, .int x)] := hl
  refine lv_iload_n hx hb dB_torn_0 rfl (lv_at hl 1 rfl) ?_
  refine vp_callSi (va_Run.run (va_runS (As := [.int x]) (rest := []) ⟨hx, hb, hml, hown, hts⟩ (c_B_isPage l dC dI ka x) (cwS 1 hts (tw_S wi_184 wi_185 wi_24 wi_186) rfl rfl rfl (by decide +kernel) ⟨Nat.le_of_ble_eq_true rfl, Nat.le_of_ble_eq_true rfl⟩) ⟨fun a U g mk q => ⟨q.1, tk_E.call q.2.1, q.2.2⟩, fun U hU hW => ⟨rfl, tk_E.warm hW hE, by rw [hU]; exact (fun k q h => by simp at h)⟩⟩ rfl rfl hl.1 rfl (lv_room (Nat.le_of_ble_eq_true rfl)) dB_torn_1 ⟨Nat.zero_le _, Nat.zero_le _⟩)) (fun r_1 er_1 => ?_)
  replace er_1 := er_1.trans (tk_is0 (N := 192) hx0)
  subst er_1
  refine lv_if_eq (tgt := 22) hx hb dB_torn_4 (by decide) (fun c_2 => ?_) (fun c_2 => ?_)
  · refine lv_iconst (v := 0) hx hb dB_torn_22 (by decide) ?_
    exact W.zret (v := 0) (ty := .boolean) hx hb hr rfl (fun t ht hW => ⟨0, rfl, rfl, ht⟩) (fun _ h => by cases h) dB_torn_23
  · exact absurd c_2 (by decide)

set_option maxHeartbeats 4000000 in
set_option maxRecDepth 100000 in
theorem c_B_torn_in (l : Launch) (dC : Nat → ClassId) (dI : Nat → Nat → Nat) (ka : Nat → ClassId) (h dr db lg fa : Nat) (fr fb : Nat → Nat) (pg pn us di : Nat → Int32) (bt : Nat → Nat → Int32) (dk : Nat → Int32) (lf wn rd en fl hd : Int32) (x : Int32) (n : Nat) (ex : x = nI n) (hn : n < 192) : Met l yB_torn wB_torn ({ frames := 3, cells := 0, slots := 0, locals := 63 }) (va_Pc [.ref h, .int x] (fun U => tk_E dC dI ka U ∧ va_P (dC, dI) clB (dw h dr db lg fa fr fb ka pg pn us di bt dk lf wn rd en fl hd) U.heap)) (vp_Si (fun r => r = if tb2 dk (n * 512) = tb2 dk (n * 512 + 510) then 0 else 1)) 0 0 (fun _ => False) := by
  refine Met.ofW (cc := cB_torn) (maxL := 2) (ret := (some .boolean)) (by decide) rfl ?_
  intro p e s m args below meth c s₁ B hml hv
  obtain ⟨rfl, hE, hP⟩ := hv
  have hx := B.exec
  have hb := B.bytes
  have hr := B.returns
  have hts := atoms_spec (ws := wB_torn) B.pre
  have hq : ∀ w ∈ lwg, w.before _ s = true := fun w h => hts w (List.mem_cons_of_mem _ h)
  have hown : s.vm.findClass RB = some m.cls := findClass_of_methodNamed B.named
  have hlocks := B.notSynchronized
  have hK := hE.1
  have hN := hE.2
  have hP : va_P (dC, dI) clB (dw h dr db lg fa fr fb ka pg pn us di bt dk lf wn rd en fl hd) s.heap := hP
  have hl := lv_entry ([.ref h, .int x]) (n := 2) (Nat.le_of_ble_eq_true rfl)
  rw [lg_entry_eq]
  generalize (lg_sl ([.ref h, .int x]) ++ List.replicate (2 - (lg_sl ([.ref h, .int x])).length) Slot.unset).toArray = ls at hl ⊢
  have hl : lv_has ls 2 [(0, .ref h), (1, .int x)] := hl
  refine lv_iload_n hx hb dB_torn_0 rfl (lv_at hl 1 rfl) ?_
  refine vp_callSi (va_Run.run (va_runS (As := [.int x]) (rest := []) ⟨hx, hb, hml, hown, hts⟩ (c_B_isPage l dC dI ka x) (cwS 1 hts (tw_S wi_184 wi_185 wi_24 wi_186) rfl rfl rfl (by decide +kernel) ⟨Nat.le_of_ble_eq_true rfl, Nat.le_of_ble_eq_true rfl⟩) ⟨fun a U g mk q => ⟨q.1, tk_E.call q.2.1, q.2.2⟩, fun U hU hW => ⟨rfl, tk_E.warm hW hE, by rw [hU]; exact (fun k q h => by simp at h)⟩⟩ rfl rfl hl.1 rfl (lv_room (Nat.le_of_ble_eq_true rfl)) dB_torn_1 ⟨Nat.zero_le _, Nat.zero_le _⟩)) (fun r_1 er_1 => ?_)
  replace er_1 := er_1.trans (tk_is1 (N := 192) ex hn (by decide))
  subst er_1
  refine lv_if_eq (tgt := 22) hx hb dB_torn_4 (by decide) (fun c_2 => ?_) (fun c_2 => ?_)
  · exact absurd c_2 (by decide)
  · refine lv_aload_n hx hb dB_torn_7 rfl (lv_at hl 0 rfl) ?_
    refine va_get (D := (dC, dI)) (ci := 3) (v := .ref dr) (C := RB) (T := TB) (N := 4) hx hb hts (inC inB) hown hK hP 0 rfl rfl 0 (by decide) (hq _ wi_114) (fun _ h9 => h9) rfl dB_torn_8 ?_
    refine lv_iload_n hx hb dB_torn_11 rfl (lv_at hl 1 rfl) ?_
    refine vp_callSi (va_Run.run (va_runV (As := [.int x]) (rest := []) ⟨hx, hb, hml, hown, hts⟩ (c_D_isTorn l dC dI ka dr db lf wn rd dk x n ex hn) (cwV 1 hts (tw_V wi_195 wi_196 wi_197 wi_25 wi_198) rfl rfl rfl (by decide +kernel) ⟨Nat.le_of_ble_eq_true rfl, Nat.le_of_ble_eq_true rfl⟩) ⟨fun a U g mk q => ⟨q.1, tk_E.call q.2.1, q.2.2⟩, va_recv hK hP (ci := 0) (q0 := 1) rfl rfl, fun U hU hW => ⟨rfl, tk_E.warm hW hE, by rw [hU]; exact (tk_two hP (k := 1) (k' := 2) rfl rfl)⟩⟩ rfl rfl hl.1 rfl (lv_room (Nat.le_of_ble_eq_true rfl)) dB_torn_12 ⟨Nat.zero_le _, Nat.zero_le _⟩)) (fun r_3 er_3 => ?_)
    subst er_3
    refine lv_if_eq (tgt := 22) hx hb dB_torn_15 (by decide) (fun c_4 => ?_) (fun c_4 => ?_)
    · refine lv_iconst (v := 0) hx hb dB_torn_22 (by decide) ?_
      exact W.zret (v := 0) (ty := .boolean) hx hb hr rfl (fun t ht hW => ⟨0, rfl, (by by_cases hz : tb2 dk (n * 512) = tb2 dk (n * 512 + 510) <;> simp [hz] at c_4 ⊢), ht⟩) (fun _ h => by cases h) dB_torn_23
    · refine lv_iconst (v := 1) hx hb dB_torn_18 (by decide) ?_
      refine lv_goto (tgt := 23) hx hb dB_torn_19 (by decide) ?_
      exact W.zret (v := 1) (ty := .boolean) hx hb hr rfl (fun t ht hW => ⟨1, rfl, (by by_cases hz : tb2 dk (n * 512) = tb2 dk (n * 512 + 510) <;> simp [hz] at c_4 ⊢), ht⟩) (fun _ h => by cases h) dB_torn_23
end
section
theorem tk_out5 {x : Int32} (h0 : ¬ x = 0) (h1 : ¬ x = 1) (h2 : ¬ x = 2) (h3 : ¬ x = 3) (h4 : ¬ x = 4) : x.toInt < 0 ∨ 4 < x.toInt := by
  have a0 : ¬ x.toInt = 0 := lv_neT h0 (by decide)
  have a1 : ¬ x.toInt = 1 := lv_neT h1 (by decide)
  have a2 : ¬ x.toInt = 2 := lv_neT h2 (by decide)
  have a3 : ¬ x.toInt = 3 := lv_neT h3 (by decide)
  have a4 : ¬ x.toInt = 4 := lv_neT h4 (by decide)
  omega

theorem tk_out6 {x : Int32} (h0 : ¬ x = 0) (h1 : ¬ x = 1) (h2 : ¬ x = 2) (h3 : ¬ x = 3) (h4 : ¬ x = 4) (h5 : ¬ x = 5) : x.toInt < 0 ∨ 5 < x.toInt := by
  have a0 : ¬ x.toInt = 0 := lv_neT h0 (by decide)
  have a1 : ¬ x.toInt = 1 := lv_neT h1 (by decide)
  have a2 : ¬ x.toInt = 2 := lv_neT h2 (by decide)
  have a3 : ¬ x.toInt = 3 := lv_neT h3 (by decide)
  have a4 : ¬ x.toInt = 4 := lv_neT h4 (by decide)
  have a5 : ¬ x.toInt = 5 := lv_neT h5 (by decide)
  omega

theorem tk_out13 {x : Int32} (h0 : ¬ x = 0) (h1 : ¬ x = 1) (h2 : ¬ x = 2) (h3 : ¬ x = 3) (h4 : ¬ x = 4) (h5 : ¬ x = 5) (h6 : ¬ x = 6) (h7 : ¬ x = 7) (h8 : ¬ x = 8) (h9 : ¬ x = 9) (h10 : ¬ x = 10) (h11 : ¬ x = 11) (h12 : ¬ x = 12) : x.toInt < 0 ∨ 12 < x.toInt := by
  have a0 : ¬ x.toInt = 0 := lv_neT h0 (by decide)
  have a1 : ¬ x.toInt = 1 := lv_neT h1 (by decide)
  have a2 : ¬ x.toInt = 2 := lv_neT h2 (by decide)
  have a3 : ¬ x.toInt = 3 := lv_neT h3 (by decide)
  have a4 : ¬ x.toInt = 4 := lv_neT h4 (by decide)
  have a5 : ¬ x.toInt = 5 := lv_neT h5 (by decide)
  have a6 : ¬ x.toInt = 6 := lv_neT h6 (by decide)
  have a7 : ¬ x.toInt = 7 := lv_neT h7 (by decide)
  have a8 : ¬ x.toInt = 8 := lv_neT h8 (by decide)
  have a9 : ¬ x.toInt = 9 := lv_neT h9 (by decide)
  have a10 : ¬ x.toInt = 10 := lv_neT h10 (by decide)
  have a11 : ¬ x.toInt = 11 := lv_neT h11 (by decide)
  have a12 : ¬ x.toInt = 12 := lv_neT h12 (by decide)
  omega

def lookV (pg pn us di : Nat → Int32) (bt : Nat → Nat → Int32) (n : Nat) (y : Int32) : Int32 := if y = 0 then pg n else if y = 1 then pn n else if y = 2 then us n else if y = 3 then (if di n = 0 then 0 else 1) else if y = 4 then plB (bt n) else -1
def countV (pg : Nat → Int32) (wn rd en fl hd y : Int32) : Int32 := if y = 0 then hd else if y = 1 then rd else if y = 2 then wn else if y = 3 then en else if y = 4 then fl else if y = 5 then nI (cntP pg 12) else -1
set_option maxHeartbeats 4000000 in
set_option maxRecDepth 100000 in
theorem c_B_look_f0 (l : Launch) (dC : Nat → ClassId) (dI : Nat → Nat → Nat) (ka : Nat → ClassId) (h dr db lg fa : Nat) (fr fb : Nat → Nat) (pg pn us di : Nat → Int32) (bt : Nat → Nat → Int32) (dk : Nat → Int32) (lf wn rd en fl hd : Int32) (x y : Int32) (hx0 : x < 0 ∨ nI 12 ≤ x) : Met l yB_look wB_look ({ frames := 1, cells := 0, slots := 0, locals := 20 }) (va_Pc [.ref h, .int x, .int y] (fun U => tk_E dC dI ka U ∧ va_P (dC, dI) clB (dw h dr db lg fa fr fb ka pg pn us di bt dk lf wn rd en fl hd) U.heap)) (vp_Si (fun r => r = -1)) 0 0 (fun _ => False) := by
  refine Met.ofW (cc := cB_look) (maxL := 3) (ret := (some .int)) (by decide) rfl ?_
  intro p e s m args below meth c s₁ B hml hv
  obtain ⟨rfl, hE, hP⟩ := hv
  have hx := B.exec
  have hb := B.bytes
  have hr := B.returns
  have hts := atoms_spec (ws := wB_look) B.pre
  have hq : ∀ w ∈ lwg, w.before _ s = true := fun w h => hts w (List.mem_cons_of_mem _ h)
  have hown : s.vm.findClass RB = some m.cls := findClass_of_methodNamed B.named
  have hlocks := B.notSynchronized
  have hK := hE.1
  have hN := hE.2
  have hP : va_P (dC, dI) clB (dw h dr db lg fa fr fb ka pg pn us di bt dk lf wn rd en fl hd) s.heap := hP
  have hl := lv_entry ([.ref h, .int x, .int y]) (n := 3) (Nat.le_of_ble_eq_true rfl)
  rw [lg_entry_eq]
  generalize (lg_sl ([.ref h, .int x, .int y]) ++ List.replicate (3 - (lg_sl ([.ref h, .int x, .int y])).length) Slot.unset).toArray = ls at hl ⊢
  have hl : lv_has ls 3 [(0, .ref h), (1, .int x), (2, .int y)] := hl
  refine lv_iload_n hx hb dB_look_0 rfl (lv_at hl 1 rfl) ?_
  refine vp_callSi (va_Run.run (va_runS (As := [.int x]) (rest := []) ⟨hx, hb, hml, hown, hts⟩ (c_B_isFrame l dC dI ka x) (cwS 1 hts (tw_S wi_131 wi_132 wi_24 wi_133) rfl rfl rfl (by decide +kernel) ⟨Nat.le_of_ble_eq_true rfl, Nat.le_of_ble_eq_true rfl⟩) ⟨fun a U g mk q => ⟨q.1, tk_E.call q.2.1, q.2.2⟩, fun U hU hW => ⟨rfl, tk_E.warm hW hE, by rw [hU]; exact (fun k q h => by simp at h)⟩⟩ rfl rfl hl.1 rfl (lv_room (Nat.le_of_ble_eq_true rfl)) dB_look_1 ⟨Nat.zero_le _, Nat.zero_le _⟩)) (fun r_1 er_1 => ?_)
  replace er_1 := er_1.trans (tk_is0 (N := 12) hx0)
  subst er_1
  refine lv_if_eq (tgt := 19) hx hb dB_look_4 (by decide) (fun c_2 => ?_) (fun c_2 => ?_)
  · refine lv_iconst (v := (-1)) hx hb dB_look_19 (by decide) ?_
    exact W.iret (v := (-1)) hx hb hr (fun t ht hW => ⟨(-1), rfl, rfl, ht⟩) (fun _ h => by cases h) dB_look_20
  · exact absurd c_2 (by decide)

set_option maxHeartbeats 4000000 in
set_option maxRecDepth 100000 in
theorem c_B_look_e0 (l : Launch) (dC : Nat → ClassId) (dI : Nat → Nat → Nat) (ka : Nat → ClassId) (h dr db lg fa : Nat) (fr fb : Nat → Nat) (pg pn us di : Nat → Int32) (bt : Nat → Nat → Int32) (dk : Nat → Int32) (lf wn rd en fl hd : Int32) (x y : Int32) (n : Nat) (ex : x = nI n) (hn : n < 12) (he : pg n = -1) : Met l yB_look wB_look ({ frames := 1, cells := 0, slots := 0, locals := 20 }) (va_Pc [.ref h, .int x, .int y] (fun U => tk_E dC dI ka U ∧ va_P (dC, dI) clB (dw h dr db lg fa fr fb ka pg pn us di bt dk lf wn rd en fl hd) U.heap)) (vp_Si (fun r => r = -1)) 0 0 (fun _ => False) := by
  refine Met.ofW (cc := cB_look) (maxL := 3) (ret := (some .int)) (by decide) rfl ?_
  intro p e s m args below meth c s₁ B hml hv
  obtain ⟨rfl, hE, hP⟩ := hv
  have hx := B.exec
  have hb := B.bytes
  have hr := B.returns
  have hts := atoms_spec (ws := wB_look) B.pre
  have hq : ∀ w ∈ lwg, w.before _ s = true := fun w h => hts w (List.mem_cons_of_mem _ h)
  have hown : s.vm.findClass RB = some m.cls := findClass_of_methodNamed B.named
  have hlocks := B.notSynchronized
  have hK := hE.1
  have hN := hE.2
  have hP : va_P (dC, dI) clB (dw h dr db lg fa fr fb ka pg pn us di bt dk lf wn rd en fl hd) s.heap := hP
  have hl := lv_entry ([.ref h, .int x, .int y]) (n := 3) (Nat.le_of_ble_eq_true rfl)
  rw [lg_entry_eq]
  generalize (lg_sl ([.ref h, .int x, .int y]) ++ List.replicate (3 - (lg_sl ([.ref h, .int x, .int y])).length) Slot.unset).toArray = ls at hl ⊢
  have hl : lv_has ls 3 [(0, .ref h), (1, .int x), (2, .int y)] := hl
  refine lv_iload_n hx hb dB_look_0 rfl (lv_at hl 1 rfl) ?_
  refine vp_callSi (va_Run.run (va_runS (As := [.int x]) (rest := []) ⟨hx, hb, hml, hown, hts⟩ (c_B_isFrame l dC dI ka x) (cwS 1 hts (tw_S wi_131 wi_132 wi_24 wi_133) rfl rfl rfl (by decide +kernel) ⟨Nat.le_of_ble_eq_true rfl, Nat.le_of_ble_eq_true rfl⟩) ⟨fun a U g mk q => ⟨q.1, tk_E.call q.2.1, q.2.2⟩, fun U hU hW => ⟨rfl, tk_E.warm hW hE, by rw [hU]; exact (fun k q h => by simp at h)⟩⟩ rfl rfl hl.1 rfl (lv_room (Nat.le_of_ble_eq_true rfl)) dB_look_1 ⟨Nat.zero_le _, Nat.zero_le _⟩)) (fun r_1 er_1 => ?_)
  replace er_1 := er_1.trans (tk_is1 (N := 12) ex hn (by decide))
  subst er_1
  refine lv_if_eq (tgt := 19) hx hb dB_look_4 (by decide) (fun c_2 => ?_) (fun c_2 => ?_)
  · exact absurd c_2 (by decide)
  · refine lv_aload_n hx hb dB_look_7 rfl (lv_at hl 0 rfl) ?_
    refine va_get (D := (dC, dI)) (ci := 3) (v := .ref fa) (C := RB) (T := TB) (N := 4) hx hb hts (inC inB) hown hK hP 0 rfl rfl 2 (by decide) (hq _ wi_116) (fun _ h9 => h9) rfl dB_look_8 ?_
    refine lv_iload_n hx hb dB_look_11 rfl (lv_at hl 1 rfl) ?_
    refine tk_aald (n := n) (y := fr n) hx hb hK hP 4 1 rfl rfl ex hn (by decide) rfl dB_look_12 ?_
    refine vp_callSi (va_Run.run (va_runV (As := []) (rest := []) ⟨hx, hb, hml, hown, hts⟩ (c_F_isEmpty l dC dI ka (fr n) (fb n) (pg n) (pn n) (us n) (di n)) (cwV 0 hts (tw_V wi_149 wi_150 wi_151 wi_27 wi_152) rfl rfl rfl (by decide +kernel) ⟨Nat.le_of_ble_eq_true rfl, Nat.le_of_ble_eq_true rfl⟩) ⟨fun a U g mk q => ⟨q.1, tk_E.call q.2.1, q.2.2⟩, va_recv hK hP (ci := 1) (q0 := (5 + n)) rfl (dw_fr hn), fun U hU hW => ⟨rfl, tk_E.warm hW hE, by rw [hU]; exact (tk_one hP (k := 5 + n) (dw_fr hn))⟩⟩ rfl rfl hl.1 rfl (lv_room (Nat.le_of_ble_eq_true rfl)) dB_look_13 ⟨Nat.zero_le _, Nat.zero_le _⟩)) (fun r_3 er_3 => ?_)
    replace er_3 := er_3.trans (if_pos he)
    subst er_3
    refine lv_if_eq (tgt := 21) hx hb dB_look_16 (by decide) (fun c_4 => ?_) (fun c_4 => ?_)
    · exact absurd c_4 (by decide)
    · refine lv_iconst (v := (-1)) hx hb dB_look_19 (by decide) ?_
      exact W.iret (v := (-1)) hx hb hr (fun t ht hW => ⟨(-1), rfl, rfl, ht⟩) (fun _ h => by cases h) dB_look_20

set_option maxHeartbeats 4000000 in
set_option maxRecDepth 100000 in
theorem c_B_look_in (l : Launch) (dC : Nat → ClassId) (dI : Nat → Nat → Nat) (ka : Nat → ClassId) (h dr db lg fa : Nat) (fr fb : Nat → Nat) (pg pn us di : Nat → Int32) (bt : Nat → Nat → Int32) (dk : Nat → Int32) (lf wn rd en fl hd : Int32) (x y : Int32) (n : Nat) (ex : x = nI n) (hn : n < 12) (he : ¬ pg n = -1) : Met l yB_look wB_look ({ frames := 2, cells := 0, slots := 0, locals := 41 }) (va_Pc [.ref h, .int x, .int y] (fun U => tk_E dC dI ka U ∧ va_P (dC, dI) clB (dw h dr db lg fa fr fb ka pg pn us di bt dk lf wn rd en fl hd) U.heap)) (vp_Si (fun r => r = lookV pg pn us di bt n y)) 0 0 (fun _ => False) := by
  refine Met.ofW (cc := cB_look) (maxL := 3) (ret := (some .int)) (by decide) rfl ?_
  intro p e s m args below meth c s₁ B hml hv
  obtain ⟨rfl, hE, hP⟩ := hv
  have hx := B.exec
  have hb := B.bytes
  have hr := B.returns
  have hts := atoms_spec (ws := wB_look) B.pre
  have hq : ∀ w ∈ lwg, w.before _ s = true := fun w h => hts w (List.mem_cons_of_mem _ h)
  have hown : s.vm.findClass RB = some m.cls := findClass_of_methodNamed B.named
  have hlocks := B.notSynchronized
  have hK := hE.1
  have hN := hE.2
  have hP : va_P (dC, dI) clB (dw h dr db lg fa fr fb ka pg pn us di bt dk lf wn rd en fl hd) s.heap := hP
  have hl := lv_entry ([.ref h, .int x, .int y]) (n := 3) (Nat.le_of_ble_eq_true rfl)
  rw [lg_entry_eq]
  generalize (lg_sl ([.ref h, .int x, .int y]) ++ List.replicate (3 - (lg_sl ([.ref h, .int x, .int y])).length) Slot.unset).toArray = ls at hl ⊢
  have hl : lv_has ls 3 [(0, .ref h), (1, .int x), (2, .int y)] := hl
  refine lv_iload_n hx hb dB_look_0 rfl (lv_at hl 1 rfl) ?_
  refine vp_callSi (va_Run.run (va_runS (As := [.int x]) (rest := []) ⟨hx, hb, hml, hown, hts⟩ (c_B_isFrame l dC dI ka x) (cwS 1 hts (tw_S wi_131 wi_132 wi_24 wi_133) rfl rfl rfl (by decide +kernel) ⟨Nat.le_of_ble_eq_true rfl, Nat.le_of_ble_eq_true rfl⟩) ⟨fun a U g mk q => ⟨q.1, tk_E.call q.2.1, q.2.2⟩, fun U hU hW => ⟨rfl, tk_E.warm hW hE, by rw [hU]; exact (fun k q h => by simp at h)⟩⟩ rfl rfl hl.1 rfl (lv_room (Nat.le_of_ble_eq_true rfl)) dB_look_1 ⟨Nat.zero_le _, Nat.zero_le _⟩)) (fun r_1 er_1 => ?_)
  replace er_1 := er_1.trans (tk_is1 (N := 12) ex hn (by decide))
  subst er_1
  refine lv_if_eq (tgt := 19) hx hb dB_look_4 (by decide) (fun c_2 => ?_) (fun c_2 => ?_)
  · exact absurd c_2 (by decide)
  · refine lv_aload_n hx hb dB_look_7 rfl (lv_at hl 0 rfl) ?_
    refine va_get (D := (dC, dI)) (ci := 3) (v := .ref fa) (C := RB) (T := TB) (N := 4) hx hb hts (inC inB) hown hK hP 0 rfl rfl 2 (by decide) (hq _ wi_116) (fun _ h9 => h9) rfl dB_look_8 ?_
    refine lv_iload_n hx hb dB_look_11 rfl (lv_at hl 1 rfl) ?_
    refine tk_aald (n := n) (y := fr n) hx hb hK hP 4 1 rfl rfl ex hn (by decide) rfl dB_look_12 ?_
    refine vp_callSi (va_Run.run (va_runV (As := []) (rest := []) ⟨hx, hb, hml, hown, hts⟩ (c_F_isEmpty l dC dI ka (fr n) (fb n) (pg n) (pn n) (us n) (di n)) (cwV 0 hts (tw_V wi_149 wi_150 wi_151 wi_27 wi_152) rfl rfl rfl (by decide +kernel) ⟨Nat.le_of_ble_eq_true rfl, Nat.le_of_ble_eq_true rfl⟩) ⟨fun a U g mk q => ⟨q.1, tk_E.call q.2.1, q.2.2⟩, va_recv hK hP (ci := 1) (q0 := (5 + n)) rfl (dw_fr hn), fun U hU hW => ⟨rfl, tk_E.warm hW hE, by rw [hU]; exact (tk_one hP (k := 5 + n) (dw_fr hn))⟩⟩ rfl rfl hl.1 rfl (lv_room (Nat.le_of_ble_eq_true rfl)) dB_look_13 ⟨Nat.zero_le _, Nat.zero_le _⟩)) (fun r_3 er_3 => ?_)
    replace er_3 := er_3.trans (if_neg he)
    subst er_3
    refine lv_if_eq (tgt := 21) hx hb dB_look_16 (by decide) (fun c_4 => ?_) (fun c_4 => ?_)
    · refine lv_iload_n hx hb dB_look_21 rfl (lv_at hl 2 rfl) ?_
      by_cases c_5 : y = 0
      · refine lv_tableIn (off := 34) (tgt := 56) hx hb dB_look_22 (by rw [c_5]; decide) (by rw [c_5]; decide) (by rw [c_5]; rfl) (by decide) ?_
        refine lv_aload_n hx hb dB_look_56 rfl (lv_at hl 0 rfl) ?_
        refine va_get (D := (dC, dI)) (ci := 3) (v := .ref fa) (C := RB) (T := TB) (N := 4) hx hb hts (inC inB) hown hK hP 0 rfl rfl 2 (by decide) (hq _ wi_116) (fun _ h9 => h9) rfl dB_look_57 ?_
        refine lv_iload_n hx hb dB_look_60 rfl (lv_at hl 1 rfl) ?_
        refine tk_aald (n := n) (y := fr n) hx hb hK hP 4 1 rfl rfl ex hn (by decide) rfl dB_look_61 ?_
        refine va_getN (D := (dC, dI)) (ci := 1) (v := .int (pg n)) (C := RF) (T := TF) (N := 5) hx hb hts (inC inF) hown hK hP (5 + n) (dw_fr hn) rfl 1 (by decide) (va_Nw.use rfl (hN _ ns_9)) (fun _ h9 => h9) rfl dB_look_62 ?_
        exact W.iret (v := (pg n)) hx hb hr (fun t ht hW => ⟨(pg n), rfl, (by simp [lookV, c_2, c_4, c_5]), ht⟩) (fun _ h => by cases h) dB_look_65
      by_cases c_6 : y = 1
      · refine lv_tableIn (off := 44) (tgt := 66) hx hb dB_look_22 (by rw [c_6]; decide) (by rw [c_6]; decide) (by rw [c_6]; rfl) (by decide) ?_
        refine lv_aload_n hx hb dB_look_66 rfl (lv_at hl 0 rfl) ?_
        refine va_get (D := (dC, dI)) (ci := 3) (v := .ref fa) (C := RB) (T := TB) (N := 4) hx hb hts (inC inB) hown hK hP 0 rfl rfl 2 (by decide) (hq _ wi_116) (fun _ h9 => h9) rfl dB_look_67 ?_
        refine lv_iload_n hx hb dB_look_70 rfl (lv_at hl 1 rfl) ?_
        refine tk_aald (n := n) (y := fr n) hx hb hK hP 4 1 rfl rfl ex hn (by decide) rfl dB_look_71 ?_
        refine va_getN (D := (dC, dI)) (ci := 1) (v := .int (pn n)) (C := RF) (T := TF) (N := 5) hx hb hts (inC inF) hown hK hP (5 + n) (dw_fr hn) rfl 2 (by decide) (va_Nw.use rfl (hN _ ns_10)) (fun _ h9 => h9) rfl dB_look_72 ?_
        exact W.iret (v := (pn n)) hx hb hr (fun t ht hW => ⟨(pn n), rfl, (by simp [lookV, c_2, c_4, c_5, c_6]), ht⟩) (fun _ h => by cases h) dB_look_75
      by_cases c_7 : y = 2
      · refine lv_tableIn (off := 54) (tgt := 76) hx hb dB_look_22 (by rw [c_7]; decide) (by rw [c_7]; decide) (by rw [c_7]; rfl) (by decide) ?_
        refine lv_aload_n hx hb dB_look_76 rfl (lv_at hl 0 rfl) ?_
        refine va_get (D := (dC, dI)) (ci := 3) (v := .ref fa) (C := RB) (T := TB) (N := 4) hx hb hts (inC inB) hown hK hP 0 rfl rfl 2 (by decide) (hq _ wi_116) (fun _ h9 => h9) rfl dB_look_77 ?_
        refine lv_iload_n hx hb dB_look_80 rfl (lv_at hl 1 rfl) ?_
        refine tk_aald (n := n) (y := fr n) hx hb hK hP 4 1 rfl rfl ex hn (by decide) rfl dB_look_81 ?_
        refine va_getN (D := (dC, dI)) (ci := 1) (v := .int (us n)) (C := RF) (T := TF) (N := 5) hx hb hts (inC inF) hown hK hP (5 + n) (dw_fr hn) rfl 3 (by decide) (va_Nw.use rfl (hN _ ns_11)) (fun _ h9 => h9) rfl dB_look_82 ?_
        exact W.iret (v := (us n)) hx hb hr (fun t ht hW => ⟨(us n), rfl, (by simp [lookV, c_2, c_4, c_5, c_6, c_7]), ht⟩) (fun _ h => by cases h) dB_look_85
      by_cases c_8 : y = 3
      · refine lv_tableIn (off := 64) (tgt := 86) hx hb dB_look_22 (by rw [c_8]; decide) (by rw [c_8]; decide) (by rw [c_8]; rfl) (by decide) ?_
        refine lv_aload_n hx hb dB_look_86 rfl (lv_at hl 0 rfl) ?_
        refine va_get (D := (dC, dI)) (ci := 3) (v := .ref fa) (C := RB) (T := TB) (N := 4) hx hb hts (inC inB) hown hK hP 0 rfl rfl 2 (by decide) (hq _ wi_116) (fun _ h9 => h9) rfl dB_look_87 ?_
        refine lv_iload_n hx hb dB_look_90 rfl (lv_at hl 1 rfl) ?_
        refine tk_aald (n := n) (y := fr n) hx hb hK hP 4 1 rfl rfl ex hn (by decide) rfl dB_look_91 ?_
        refine va_getN (D := (dC, dI)) (ci := 1) (v := .int (di n)) (C := RF) (T := TF) (N := 5) hx hb hts (inC inF) hown hK hP (5 + n) (dw_fr hn) rfl 4 (by decide) (va_Nw.use rfl (hN _ ns_12)) (fun _ h9 => h9) rfl dB_look_92 ?_
        refine lv_if_eq (tgt := 102) hx hb dB_look_95 (by decide) (fun c_9 => ?_) (fun c_9 => ?_)
        · refine lv_iconst (v := 0) hx hb dB_look_102 (by decide) ?_
          exact W.iret (v := 0) hx hb hr (fun t ht hW => ⟨0, rfl, (by simp [lookV, c_2, c_4, c_5, c_6, c_7, c_8, c_9]), ht⟩) (fun _ h => by cases h) dB_look_103
        · refine lv_iconst (v := 1) hx hb dB_look_98 (by decide) ?_
          refine lv_goto (tgt := 103) hx hb dB_look_99 (by decide) ?_
          exact W.iret (v := 1) hx hb hr (fun t ht hW => ⟨1, rfl, (by simp [lookV, c_2, c_4, c_5, c_6, c_7, c_8, c_9]), ht⟩) (fun _ h => by cases h) dB_look_103
      by_cases c_10 : y = 4
      · refine lv_tableIn (off := 82) (tgt := 104) hx hb dB_look_22 (by rw [c_10]; decide) (by rw [c_10]; decide) (by rw [c_10]; rfl) (by decide) ?_
        refine lv_aload_n hx hb dB_look_104 rfl (lv_at hl 0 rfl) ?_
        refine va_get (D := (dC, dI)) (ci := 3) (v := .ref fa) (C := RB) (T := TB) (N := 4) hx hb hts (inC inB) hown hK hP 0 rfl rfl 2 (by decide) (hq _ wi_116) (fun _ h9 => h9) rfl dB_look_105 ?_
        refine lv_iload_n hx hb dB_look_108 rfl (lv_at hl 1 rfl) ?_
        refine tk_aald (n := n) (y := fr n) hx hb hK hP 4 1 rfl rfl ex hn (by decide) rfl dB_look_109 ?_
        refine vp_callSi (va_Run.run (va_runV (As := []) (rest := []) ⟨hx, hb, hml, hown, hts⟩ (c_F_place l dC dI ka (fr n) (fb n) (pg n) (pn n) (us n) (di n) (bt n)) (cwV 0 hts (tw_V wi_157 wi_158 wi_159 wi_27 wi_160) rfl rfl rfl (by decide +kernel) ⟨Nat.le_of_ble_eq_true rfl, Nat.le_of_ble_eq_true rfl⟩) ⟨fun a U g mk q => ⟨q.1, tk_E.call q.2.1, q.2.2⟩, va_recv hK hP (ci := 1) (q0 := (5 + n)) rfl (dw_fr hn), fun U hU hW => ⟨rfl, tk_E.warm hW hE, by rw [hU]; exact (tk_two hP (k := 5 + n) (k' := 17 + n) (dw_fr hn) (dw_fb hn))⟩⟩ rfl rfl hl.1 rfl (lv_room (Nat.le_of_ble_eq_true rfl)) dB_look_110 ⟨Nat.zero_le _, Nat.zero_le _⟩)) (fun r_11 er_11 => ?_)
        subst er_11
        exact W.iret (v := (plB (bt n))) hx hb hr (fun t ht hW => ⟨(plB (bt n)), rfl, (by simp [lookV, c_2, c_4, c_5, c_6, c_7, c_8, c_10]), ht⟩) (fun _ h => by cases h) dB_look_113
      refine lv_tableOut (tgt := 114) hx hb dB_look_22 (tk_out5 c_5 c_6 c_7 c_8 c_10) (by decide) ?_
      refine lv_iconst (v := (-1)) hx hb dB_look_114 (by decide) ?_
      exact W.iret (v := (-1)) hx hb hr (fun t ht hW => ⟨(-1), rfl, (by simp [lookV, c_2, c_4, c_5, c_6, c_7, c_8, c_10]), ht⟩) (fun _ h => by cases h) dB_look_115
    · exact absurd c_4 (by decide)

set_option maxHeartbeats 4000000 in
set_option maxRecDepth 100000 in
theorem c_B_count (l : Launch) (dC : Nat → ClassId) (dI : Nat → Nat → Nat) (ka : Nat → ClassId) (h dr db lg fa : Nat) (fr fb : Nat → Nat) (pg pn us di : Nat → Int32) (bt : Nat → Nat → Int32) (dk : Nat → Int32) (lf wn rd en fl hd : Int32) (y : Int32) : Met l yB_count wB_count ({ frames := 2, cells := 0, slots := 0, locals := 42 }) (va_Pc [.ref h, .int y] (fun U => tk_E dC dI ka U ∧ va_P (dC, dI) clB (dw h dr db lg fa fr fb ka pg pn us di bt dk lf wn rd en fl hd) U.heap)) (vp_Si (fun r => r = countV pg wn rd en fl hd y)) 0 0 (fun _ => False) := by
  refine Met.ofW (cc := cB_count) (maxL := 2) (ret := (some .int)) (by decide) rfl ?_
  intro p e s m args below meth c s₁ B hml hv
  obtain ⟨rfl, hE, hP⟩ := hv
  have hx := B.exec
  have hb := B.bytes
  have hr := B.returns
  have hts := atoms_spec (ws := wB_count) B.pre
  have hq : ∀ w ∈ lwg, w.before _ s = true := fun w h => hts w (List.mem_cons_of_mem _ h)
  have hown : s.vm.findClass RB = some m.cls := findClass_of_methodNamed B.named
  have hlocks := B.notSynchronized
  have hK := hE.1
  have hN := hE.2
  have hP : va_P (dC, dI) clB (dw h dr db lg fa fr fb ka pg pn us di bt dk lf wn rd en fl hd) s.heap := hP
  have hl := lv_entry ([.ref h, .int y]) (n := 2) (Nat.le_of_ble_eq_true rfl)
  rw [lg_entry_eq]
  generalize (lg_sl ([.ref h, .int y]) ++ List.replicate (2 - (lg_sl ([.ref h, .int y])).length) Slot.unset).toArray = ls at hl ⊢
  have hl : lv_has ls 2 [(0, .ref h), (1, .int y)] := hl
  refine lv_iload_n hx hb dB_count_0 rfl (lv_at hl 1 rfl) ?_
  by_cases c_1 : y = 0
  · refine lv_tableIn (off := 39) (tgt := 40) hx hb dB_count_1 (by rw [c_1]; decide) (by rw [c_1]; decide) (by rw [c_1]; rfl) (by decide) ?_
    refine lv_aload_n hx hb dB_count_40 rfl (lv_at hl 0 rfl) ?_
    refine va_get (D := (dC, dI)) (ci := 3) (v := .int hd) (C := RB) (T := TB) (N := 4) hx hb hts (inC inB) hown hK hP 0 rfl rfl 3 (by decide) (hq _ wi_117) (fun _ h9 => h9) rfl dB_count_41 ?_
    exact W.iret (v := hd) hx hb hr (fun t ht hW => ⟨hd, rfl, (by simp [countV, c_1]), ht⟩) (fun _ h => by cases h) dB_count_44
  by_cases c_2 : y = 1
  · refine lv_tableIn (off := 44) (tgt := 45) hx hb dB_count_1 (by rw [c_2]; decide) (by rw [c_2]; decide) (by rw [c_2]; rfl) (by decide) ?_
    refine lv_aload_n hx hb dB_count_45 rfl (lv_at hl 0 rfl) ?_
    refine va_get (D := (dC, dI)) (ci := 3) (v := .ref dr) (C := RB) (T := TB) (N := 4) hx hb hts (inC inB) hown hK hP 0 rfl rfl 0 (by decide) (hq _ wi_114) (fun _ h9 => h9) rfl dB_count_46 ?_
    refine va_getN (D := (dC, dI)) (ci := 0) (v := .int rd) (C := RD) (T := TD) (N := 4) hx hb hts (inC inD) hown hK hP 1 rfl rfl 3 (by decide) (va_Nw.use rfl (hN _ ns_3)) (fun _ h9 => h9) rfl dB_count_49 ?_
    exact W.iret (v := rd) hx hb hr (fun t ht hW => ⟨rd, rfl, (by simp [countV, c_1, c_2]), ht⟩) (fun _ h => by cases h) dB_count_52
  by_cases c_3 : y = 2
  · refine lv_tableIn (off := 52) (tgt := 53) hx hb dB_count_1 (by rw [c_3]; decide) (by rw [c_3]; decide) (by rw [c_3]; rfl) (by decide) ?_
    refine lv_aload_n hx hb dB_count_53 rfl (lv_at hl 0 rfl) ?_
    refine va_get (D := (dC, dI)) (ci := 3) (v := .ref dr) (C := RB) (T := TB) (N := 4) hx hb hts (inC inB) hown hK hP 0 rfl rfl 0 (by decide) (hq _ wi_114) (fun _ h9 => h9) rfl dB_count_54 ?_
    refine va_getN (D := (dC, dI)) (ci := 0) (v := .int wn) (C := RD) (T := TD) (N := 4) hx hb hts (inC inD) hown hK hP 1 rfl rfl 2 (by decide) (va_Nw.use rfl (hN _ ns_2)) (fun _ h9 => h9) rfl dB_count_57 ?_
    exact W.iret (v := wn) hx hb hr (fun t ht hW => ⟨wn, rfl, (by simp [countV, c_1, c_2, c_3]), ht⟩) (fun _ h => by cases h) dB_count_60
  by_cases c_4 : y = 3
  · refine lv_tableIn (off := 60) (tgt := 61) hx hb dB_count_1 (by rw [c_4]; decide) (by rw [c_4]; decide) (by rw [c_4]; rfl) (by decide) ?_
    refine lv_aload_n hx hb dB_count_61 rfl (lv_at hl 0 rfl) ?_
    refine va_get (D := (dC, dI)) (ci := 3) (v := .ref lg) (C := RB) (T := TB) (N := 4) hx hb hts (inC inB) hown hK hP 0 rfl rfl 1 (by decide) (hq _ wi_115) (fun _ h9 => h9) rfl dB_count_62 ?_
    refine va_getN (D := (dC, dI)) (ci := 2) (v := .int en) (C := RG) (T := TG) (N := 2) hx hb hts (inC inG) hown hK hP 3 rfl rfl 0 (by decide) (va_Nw.use rfl (hN _ ns_5)) (fun _ h9 => h9) rfl dB_count_65 ?_
    exact W.iret (v := en) hx hb hr (fun t ht hW => ⟨en, rfl, (by simp [countV, c_1, c_2, c_3, c_4]), ht⟩) (fun _ h => by cases h) dB_count_68
  by_cases c_5 : y = 4
  · refine lv_tableIn (off := 68) (tgt := 69) hx hb dB_count_1 (by rw [c_5]; decide) (by rw [c_5]; decide) (by rw [c_5]; rfl) (by decide) ?_
    refine lv_aload_n hx hb dB_count_69 rfl (lv_at hl 0 rfl) ?_
    refine va_get (D := (dC, dI)) (ci := 3) (v := .ref lg) (C := RB) (T := TB) (N := 4) hx hb hts (inC inB) hown hK hP 0 rfl rfl 1 (by decide) (hq _ wi_115) (fun _ h9 => h9) rfl dB_count_70 ?_
    refine va_getN (D := (dC, dI)) (ci := 2) (v := .int fl) (C := RG) (T := TG) (N := 2) hx hb hts (inC inG) hown hK hP 3 rfl rfl 1 (by decide) (va_Nw.use rfl (hN _ ns_6)) (fun _ h9 => h9) rfl dB_count_73 ?_
    exact W.iret (v := fl) hx hb hr (fun t ht hW => ⟨fl, rfl, (by simp [countV, c_1, c_2, c_3, c_4, c_5]), ht⟩) (fun _ h => by cases h) dB_count_76
  by_cases c_6 : y = 5
  · refine lv_tableIn (off := 76) (tgt := 77) hx hb dB_count_1 (by rw [c_6]; decide) (by rw [c_6]; decide) (by rw [c_6]; rfl) (by decide) ?_
    refine lv_aload_n hx hb dB_count_77 rfl (lv_at hl 0 rfl) ?_
    refine vp_callSi (va_Run.run (va_runV (As := []) (rest := []) ⟨hx, hb, hml, hown, hts⟩ (c_B_framesWithPages l dC dI ka h dr db lg fa fr fb pg pn us di bt dk lf wn rd en fl hd ) (cwV 0 hts (tw_V wi_208 wi_210 wi_0 wi_24 wi_211) rfl rfl rfl (by decide +kernel) ⟨Nat.le_of_ble_eq_true rfl, Nat.le_of_ble_eq_true rfl⟩) ⟨fun a U g mk q => ⟨q.1, tk_E.call q.2.1, q.2.2⟩, va_recv hK hP (ci := 3) (q0 := 0) rfl rfl, fun U hU hW => ⟨rfl, tk_E.warm hW hE, by rw [hU]; exact hP⟩⟩ rfl rfl hl.1 rfl (lv_room (Nat.le_of_ble_eq_true rfl)) dB_count_78 ⟨Nat.zero_le _, Nat.zero_le _⟩)) (fun r_7 er_7 => ?_)
    subst er_7
    exact W.iret (v := (nI (cntP pg 12))) hx hb hr (fun t ht hW => ⟨(nI (cntP pg 12)), rfl, (by simp [countV, c_1, c_2, c_3, c_4, c_5, c_6]), ht⟩) (fun _ h => by cases h) dB_count_81
  refine lv_tableOut (tgt := 82) hx hb dB_count_1 (tk_out6 c_1 c_2 c_3 c_4 c_5 c_6) (by decide) ?_
  refine lv_iconst (v := (-1)) hx hb dB_count_82 (by decide) ?_
  exact W.iret (v := (-1)) hx hb hr (fun t ht hW => ⟨(-1), rfl, (by simp [countV, c_1, c_2, c_3, c_4, c_5, c_6]), ht⟩) (fun _ h => by cases h) dB_count_83

set_option maxHeartbeats 4000000 in
set_option maxRecDepth 100000 in
theorem c_B_flushed (l : Launch) (dC : Nat → ClassId) (dI : Nat → Nat → Nat) (ka : Nat → ClassId) (sz : Nat) (h dr db lg fa : Nat) (fr fb : Nat → Nat) (pg pn us di : Nat → Int32) (bt : Nat → Nat → Int32) (dk : Nat → Int32) (lf wn rd en fl hd : Int32) (x : Int32) : Met l yB_flushed wB_flushed ({ frames := 1, cells := 0, slots := 0, locals := 21 }) (va_Pc [.ref h, .int x] (fun U => U.heap.size = sz ∧ tk_E dC dI ka U ∧ va_P (dC, dI) clB (dw h dr db lg fa fr fb ka pg pn us di bt dk lf wn rd en fl hd) U.heap ∧ va_D (fun _ => True) (dw h dr db lg fa fr fb ka pg pn us di bt dk lf wn rd en fl hd))) (va_Qi (fun (r : Int32) (_ : Unit) => r = if en < x then 1 else 0) (fun _ t => va_P (dC, dI) clB (dw h dr db lg fa fr fb ka pg pn us di bt dk lf wn rd (if en < x then x else en) fl hd) t.heap) (va_A (dw h dr db lg fa fr fb ka pg pn us di bt dk lf wn rd en fl hd) sz)) 0 0 (va_A (dw h dr db lg fa fr fb ka pg pn us di bt dk lf wn rd en fl hd) sz) := by
  refine Met.ofW (cc := cB_flushed) (maxL := 2) (ret := (some .boolean)) (by decide) rfl ?_
  intro p e s m args below meth c s₁ B hml hv
  obtain ⟨rfl, hsz, hE, hP, hD0⟩ := hv
  have hx := B.exec
  have hb := B.bytes
  have hr := B.returns
  have hts := atoms_spec (ws := wB_flushed) B.pre
  have hq : ∀ w ∈ lwg, w.before _ s = true := fun w h => hts w (List.mem_cons_of_mem _ h)
  have hown : s.vm.findClass RB = some m.cls := findClass_of_methodNamed B.named
  have hlocks := B.notSynchronized
  have hK := hE.1
  have hN := hE.2
  subst hsz
  have hD := hD0.self (sz := s.heap.size)
  generalize hAe : va_A (dw h dr db lg fa fr fb ka pg pn us di bt dk lf wn rd en fl hd) s.heap.size = A at hD ⊢
  have hA : ∀ q : Nat, s.heap.size ≤ q → A q := fun q h => by rw [← hAe]; exact Or.inr h
  have hS : va_S A s.heap s.heap [] := va_S.rf
  have hDw := hD
  have hP : va_P (dC, dI) clB (dw h dr db lg fa fr fb ka pg pn us di bt dk lf wn rd en fl hd) s.heap := hP
  have hl := lv_entry ([.ref h, .int x]) (n := 2) (Nat.le_of_ble_eq_true rfl)
  rw [lg_entry_eq]
  generalize (lg_sl ([.ref h, .int x]) ++ List.replicate (2 - (lg_sl ([.ref h, .int x])).length) Slot.unset).toArray = ls at hl ⊢
  have hl : lv_has ls 2 [(0, .ref h), (1, .int x)] := hl
  refine lv_aload_n hx hb dB_flushed_0 rfl (lv_at hl 0 rfl) ?_
  refine va_get (D := (dC, dI)) (ci := 3) (v := .ref lg) (C := RB) (T := TB) (N := 4) hx hb hts (inC inB) hown hK hP 0 rfl rfl 1 (by decide) (hq _ wi_115) (fun _ h9 => h9) rfl dB_flushed_1 ?_
  refine lv_iload_n hx hb dB_flushed_4 rfl (lv_at hl 1 rfl) ?_
  have hFc := tk_free1 (k := 3) hD hS hA rfl
  refine va_calli (va_runV (As := [.int x]) (rest := []) ⟨hx, hb, hml, hown, hts⟩ (c_G_advance l dC dI ka _ lg en fl x) (cwV 1 hts (tw_V wi_172 wi_173 wi_174 wi_26 wi_175) rfl rfl rfl (by decide +kernel) ⟨Nat.le_of_ble_eq_true rfl, Nat.le_of_ble_eq_true rfl⟩) ⟨fun a U g mk q => ⟨q.1, q.2.1, tk_E.call q.2.2.1, q.2.2.2⟩, va_recv hK hP (ci := 2) (q0 := 3) rfl rfl, fun U hU hW => ⟨rfl, by rw [hU], tk_E.warm hW hE, by rw [hU]; exact (tk_one hP (k := 3) rfl), tk_done⟩⟩ rfl rfl hl.1 rfl (lv_room (Nat.le_of_ble_eq_true rfl)) dB_flushed_5 ⟨Nat.zero_le _, Nat.zero_le _⟩) hS (fun q _ h => hFc q h) hFc (fun r_2 u_1 t H1 locs ht hvm hw hB hz1 hk1 hS => ?_)
  have hB : va_P (dC, dI) clB [(lg, .inr (2, [.int (if en < x then x else en), .int fl]))] H1 := by rw [← ht]; exact hB
  obtain ⟨hP, hD⟩ := tk_join1 (k := 3) hP hD rfl hk1 hB
  generalize H1 = H at hP hS ⊢
  have hP : va_P (dC, dI) clB (dw h dr db lg fa fr fb ka pg pn us di bt dk lf wn rd (if en < x then x else en) fl hd) H := (show va_P _ _ _ H from hP)
  have hD : va_D A (dw h dr db lg fa fr fb ka pg pn us di bt dk lf wn rd (if en < x then x else en) fl hd) := dw_D hDw
  subst hw
  exact W.zret (v := (if en < x then 1 else 0)) (ty := .boolean) hx hb hr (by by_cases hz : en < x <;> simp [hz] <;> rfl) (fun t ht hW => ⟨⟨(if en < x then 1 else 0), (), rfl, rfl, by show va_P _ _ _ t.heap; rw [ht]; exact hP⟩, hS.F ht⟩) hS.2.2 dB_flushed_8

set_option maxHeartbeats 4000000 in
set_option maxRecDepth 100000 in
theorem c_B_unpin_f0 (l : Launch) (dC : Nat → ClassId) (dI : Nat → Nat → Nat) (ka : Nat → ClassId) (sz : Nat) (h dr db lg fa : Nat) (fr fb : Nat → Nat) (pg pn us di : Nat → Int32) (bt : Nat → Nat → Int32) (dk : Nat → Int32) (lf wn rd en fl hd : Int32) (x : Int32) (hx0 : x < 0 ∨ nI 12 ≤ x) : Met l yB_unpin wB_unpin ({ frames := 1, cells := 0, slots := 0, locals := 20 }) (va_Pc [.ref h, .int x] (fun U => U.heap.size = sz ∧ tk_E dC dI ka U ∧ va_P (dC, dI) clB (dw h dr db lg fa fr fb ka pg pn us di bt dk lf wn rd en fl hd) U.heap ∧ va_D (fun _ => True) (dw h dr db lg fa fr fb ka pg pn us di bt dk lf wn rd en fl hd))) (va_Qi (fun (r : Int32) (_ : Unit) => r = 0) (fun _ t => va_P (dC, dI) clB (dw h dr db lg fa fr fb ka pg pn us di bt dk lf wn rd en fl hd) t.heap) (va_A (dw h dr db lg fa fr fb ka pg pn us di bt dk lf wn rd en fl hd) sz)) 0 0 (va_A (dw h dr db lg fa fr fb ka pg pn us di bt dk lf wn rd en fl hd) sz) := by
  refine Met.ofW (cc := cB_unpin) (maxL := 2) (ret := (some .boolean)) (by decide) rfl ?_
  intro p e s m args below meth c s₁ B hml hv
  obtain ⟨rfl, hsz, hE, hP, hD0⟩ := hv
  have hx := B.exec
  have hb := B.bytes
  have hr := B.returns
  have hts := atoms_spec (ws := wB_unpin) B.pre
  have hq : ∀ w ∈ lwg, w.before _ s = true := fun w h => hts w (List.mem_cons_of_mem _ h)
  have hown : s.vm.findClass RB = some m.cls := findClass_of_methodNamed B.named
  have hlocks := B.notSynchronized
  have hK := hE.1
  have hN := hE.2
  subst hsz
  have hD := hD0.self (sz := s.heap.size)
  generalize hAe : va_A (dw h dr db lg fa fr fb ka pg pn us di bt dk lf wn rd en fl hd) s.heap.size = A at hD ⊢
  have hA : ∀ q : Nat, s.heap.size ≤ q → A q := fun q h => by rw [← hAe]; exact Or.inr h
  have hS : va_S A s.heap s.heap [] := va_S.rf
  have hDw := hD
  have hP : va_P (dC, dI) clB (dw h dr db lg fa fr fb ka pg pn us di bt dk lf wn rd en fl hd) s.heap := hP
  have hl := lv_entry ([.ref h, .int x]) (n := 2) (Nat.le_of_ble_eq_true rfl)
  rw [lg_entry_eq]
  generalize (lg_sl ([.ref h, .int x]) ++ List.replicate (2 - (lg_sl ([.ref h, .int x])).length) Slot.unset).toArray = ls at hl ⊢
  have hl : lv_has ls 2 [(0, .ref h), (1, .int x)] := hl
  refine lv_iload_n hx hb dB_unpin_0 rfl (lv_at hl 1 rfl) ?_
  refine vp_callSi (va_Run.run (va_runS (As := [.int x]) (rest := []) ⟨hx, hb, hml, hown, hts⟩ (c_B_isFrame l dC dI ka x) (cwS 1 hts (tw_S wi_131 wi_132 wi_24 wi_133) rfl rfl rfl (by decide +kernel) ⟨Nat.le_of_ble_eq_true rfl, Nat.le_of_ble_eq_true rfl⟩) ⟨fun a U g mk q => ⟨q.1, tk_E.call q.2.1, q.2.2⟩, fun U hU hW => ⟨rfl, tk_E.warm hW hE, by rw [hU]; exact (fun k q h => by simp at h)⟩⟩ rfl rfl hl.1 rfl (lv_room (Nat.le_of_ble_eq_true rfl)) dB_unpin_1 ⟨Nat.zero_le _, Nat.zero_le _⟩)) (fun r_1 er_1 => ?_)
  replace er_1 := er_1.trans (tk_is0 (N := 12) hx0)
  subst er_1
  refine lv_if_eq (tgt := 19) hx hb dB_unpin_4 (by decide) (fun c_2 => ?_) (fun c_2 => ?_)
  · refine lv_iconst (v := 0) hx hb dB_unpin_19 (by decide) ?_
    exact W.zret (v := 0) (ty := .boolean) hx hb hr rfl (fun t ht hW => ⟨⟨0, (), rfl, rfl, by show va_P _ _ _ t.heap; rw [ht]; exact hP⟩, hS.F ht⟩) hS.2.2 dB_unpin_20
  · exact absurd c_2 (by decide)

set_option maxHeartbeats 4000000 in
set_option maxRecDepth 100000 in
theorem c_B_unpin_n0 (l : Launch) (dC : Nat → ClassId) (dI : Nat → Nat → Nat) (ka : Nat → ClassId) (sz : Nat) (h dr db lg fa : Nat) (fr fb : Nat → Nat) (pg pn us di : Nat → Int32) (bt : Nat → Nat → Int32) (dk : Nat → Int32) (lf wn rd en fl hd : Int32) (x : Int32) (n : Nat) (ex : x = nI n) (hn : n < 12) (hp : pn n ≤ 0) : Met l yB_unpin wB_unpin ({ frames := 1, cells := 0, slots := 0, locals := 20 }) (va_Pc [.ref h, .int x] (fun U => U.heap.size = sz ∧ tk_E dC dI ka U ∧ va_P (dC, dI) clB (dw h dr db lg fa fr fb ka pg pn us di bt dk lf wn rd en fl hd) U.heap ∧ va_D (fun _ => True) (dw h dr db lg fa fr fb ka pg pn us di bt dk lf wn rd en fl hd))) (va_Qi (fun (r : Int32) (_ : Unit) => r = 0) (fun _ t => va_P (dC, dI) clB (dw h dr db lg fa fr fb ka pg pn us di bt dk lf wn rd en fl hd) t.heap) (va_A (dw h dr db lg fa fr fb ka pg pn us di bt dk lf wn rd en fl hd) sz)) 0 0 (va_A (dw h dr db lg fa fr fb ka pg pn us di bt dk lf wn rd en fl hd) sz) := by
  refine Met.ofW (cc := cB_unpin) (maxL := 2) (ret := (some .boolean)) (by decide) rfl ?_
  intro p e s m args below meth c s₁ B hml hv
  obtain ⟨rfl, hsz, hE, hP, hD0⟩ := hv
  have hx := B.exec
  have hb := B.bytes
  have hr := B.returns
  have hts := atoms_spec (ws := wB_unpin) B.pre
  have hq : ∀ w ∈ lwg, w.before _ s = true := fun w h => hts w (List.mem_cons_of_mem _ h)
  have hown : s.vm.findClass RB = some m.cls := findClass_of_methodNamed B.named
  have hlocks := B.notSynchronized
  have hK := hE.1
  have hN := hE.2
  subst hsz
  have hD := hD0.self (sz := s.heap.size)
  generalize hAe : va_A (dw h dr db lg fa fr fb ka pg pn us di bt dk lf wn rd en fl hd) s.heap.size = A at hD ⊢
  have hA : ∀ q : Nat, s.heap.size ≤ q → A q := fun q h => by rw [← hAe]; exact Or.inr h
  have hS : va_S A s.heap s.heap [] := va_S.rf
  have hDw := hD
  have hP : va_P (dC, dI) clB (dw h dr db lg fa fr fb ka pg pn us di bt dk lf wn rd en fl hd) s.heap := hP
  have hl := lv_entry ([.ref h, .int x]) (n := 2) (Nat.le_of_ble_eq_true rfl)
  rw [lg_entry_eq]
  generalize (lg_sl ([.ref h, .int x]) ++ List.replicate (2 - (lg_sl ([.ref h, .int x])).length) Slot.unset).toArray = ls at hl ⊢
  have hl : lv_has ls 2 [(0, .ref h), (1, .int x)] := hl
  refine lv_iload_n hx hb dB_unpin_0 rfl (lv_at hl 1 rfl) ?_
  refine vp_callSi (va_Run.run (va_runS (As := [.int x]) (rest := []) ⟨hx, hb, hml, hown, hts⟩ (c_B_isFrame l dC dI ka x) (cwS 1 hts (tw_S wi_131 wi_132 wi_24 wi_133) rfl rfl rfl (by decide +kernel) ⟨Nat.le_of_ble_eq_true rfl, Nat.le_of_ble_eq_true rfl⟩) ⟨fun a U g mk q => ⟨q.1, tk_E.call q.2.1, q.2.2⟩, fun U hU hW => ⟨rfl, tk_E.warm hW hE, by rw [hU]; exact (fun k q h => by simp at h)⟩⟩ rfl rfl hl.1 rfl (lv_room (Nat.le_of_ble_eq_true rfl)) dB_unpin_1 ⟨Nat.zero_le _, Nat.zero_le _⟩)) (fun r_1 er_1 => ?_)
  replace er_1 := er_1.trans (tk_is1 (N := 12) ex hn (by decide))
  subst er_1
  refine lv_if_eq (tgt := 19) hx hb dB_unpin_4 (by decide) (fun c_2 => ?_) (fun c_2 => ?_)
  · exact absurd c_2 (by decide)
  · refine lv_aload_n hx hb dB_unpin_7 rfl (lv_at hl 0 rfl) ?_
    refine va_get (D := (dC, dI)) (ci := 3) (v := .ref fa) (C := RB) (T := TB) (N := 4) hx hb hts (inC inB) hown hK hP 0 rfl rfl 2 (by decide) (hq _ wi_116) (fun _ h9 => h9) rfl dB_unpin_8 ?_
    refine lv_iload_n hx hb dB_unpin_11 rfl (lv_at hl 1 rfl) ?_
    refine tk_aald (n := n) (y := fr n) hx hb hK hP 4 1 rfl rfl ex hn (by decide) rfl dB_unpin_12 ?_
    refine vp_callSi (va_Run.run (va_runV (As := []) (rest := []) ⟨hx, hb, hml, hown, hts⟩ (c_F_hasPins l dC dI ka (fr n) (fb n) (pg n) (pn n) (us n) (di n)) (cwV 0 hts (tw_V wi_134 wi_135 wi_136 wi_27 wi_137) rfl rfl rfl (by decide +kernel) ⟨Nat.le_of_ble_eq_true rfl, Nat.le_of_ble_eq_true rfl⟩) ⟨fun a U g mk q => ⟨q.1, tk_E.call q.2.1, q.2.2⟩, va_recv hK hP (ci := 1) (q0 := (5 + n)) rfl (dw_fr hn), fun U hU hW => ⟨rfl, tk_E.warm hW hE, by rw [hU]; exact (tk_one hP (k := 5 + n) (dw_fr hn))⟩⟩ rfl rfl hl.1 rfl (lv_room (Nat.le_of_ble_eq_true rfl)) dB_unpin_13 ⟨Nat.zero_le _, Nat.zero_le _⟩)) (fun r_3 er_3 => ?_)
    replace er_3 := er_3.trans (if_pos hp)
    subst er_3
    refine lv_if_ne (tgt := 21) hx hb dB_unpin_16 (by decide) (fun c_4 => ?_) (fun c_4 => ?_)
    · exact absurd c_4 (by decide)
    · refine lv_iconst (v := 0) hx hb dB_unpin_19 (by decide) ?_
      exact W.zret (v := 0) (ty := .boolean) hx hb hr rfl (fun t ht hW => ⟨⟨0, (), rfl, rfl, by show va_P _ _ _ t.heap; rw [ht]; exact hP⟩, hS.F ht⟩) hS.2.2 dB_unpin_20

set_option maxHeartbeats 4000000 in
set_option maxRecDepth 100000 in
theorem c_B_unpin_in (l : Launch) (dC : Nat → ClassId) (dI : Nat → Nat → Nat) (ka : Nat → ClassId) (sz : Nat) (h dr db lg fa : Nat) (fr fb : Nat → Nat) (pg pn us di : Nat → Int32) (bt : Nat → Nat → Int32) (dk : Nat → Int32) (lf wn rd en fl hd : Int32) (x : Int32) (n : Nat) (ex : x = nI n) (hn : n < 12) (hp : ¬ pn n ≤ 0) : Met l yB_unpin wB_unpin ({ frames := 1, cells := 0, slots := 0, locals := 20 }) (va_Pc [.ref h, .int x] (fun U => U.heap.size = sz ∧ tk_E dC dI ka U ∧ va_P (dC, dI) clB (dw h dr db lg fa fr fb ka pg pn us di bt dk lf wn rd en fl hd) U.heap ∧ va_D (fun _ => True) (dw h dr db lg fa fr fb ka pg pn us di bt dk lf wn rd en fl hd))) (va_Qi (fun (r : Int32) (_ : Unit) => r = 1) (fun _ t => va_P (dC, dI) clB (dw h dr db lg fa fr fb ka pg (upd pn n (pn n - 1)) us di bt dk lf wn rd en fl hd) t.heap) (va_A (dw h dr db lg fa fr fb ka pg pn us di bt dk lf wn rd en fl hd) sz)) 0 0 (va_A (dw h dr db lg fa fr fb ka pg pn us di bt dk lf wn rd en fl hd) sz) := by
  refine Met.ofW (cc := cB_unpin) (maxL := 2) (ret := (some .boolean)) (by decide) rfl ?_
  intro p e s m args below meth c s₁ B hml hv
  obtain ⟨rfl, hsz, hE, hP, hD0⟩ := hv
  have hx := B.exec
  have hb := B.bytes
  have hr := B.returns
  have hts := atoms_spec (ws := wB_unpin) B.pre
  have hq : ∀ w ∈ lwg, w.before _ s = true := fun w h => hts w (List.mem_cons_of_mem _ h)
  have hown : s.vm.findClass RB = some m.cls := findClass_of_methodNamed B.named
  have hlocks := B.notSynchronized
  have hK := hE.1
  have hN := hE.2
  subst hsz
  have hD := hD0.self (sz := s.heap.size)
  generalize hAe : va_A (dw h dr db lg fa fr fb ka pg pn us di bt dk lf wn rd en fl hd) s.heap.size = A at hD ⊢
  have hA : ∀ q : Nat, s.heap.size ≤ q → A q := fun q h => by rw [← hAe]; exact Or.inr h
  have hS : va_S A s.heap s.heap [] := va_S.rf
  have hDw := hD
  have hP : va_P (dC, dI) clB (dw h dr db lg fa fr fb ka pg pn us di bt dk lf wn rd en fl hd) s.heap := hP
  have hl := lv_entry ([.ref h, .int x]) (n := 2) (Nat.le_of_ble_eq_true rfl)
  rw [lg_entry_eq]
  generalize (lg_sl ([.ref h, .int x]) ++ List.replicate (2 - (lg_sl ([.ref h, .int x])).length) Slot.unset).toArray = ls at hl ⊢
  have hl : lv_has ls 2 [(0, .ref h), (1, .int x)] := hl
  refine lv_iload_n hx hb dB_unpin_0 rfl (lv_at hl 1 rfl) ?_
  refine vp_callSi (va_Run.run (va_runS (As := [.int x]) (rest := []) ⟨hx, hb, hml, hown, hts⟩ (c_B_isFrame l dC dI ka x) (cwS 1 hts (tw_S wi_131 wi_132 wi_24 wi_133) rfl rfl rfl (by decide +kernel) ⟨Nat.le_of_ble_eq_true rfl, Nat.le_of_ble_eq_true rfl⟩) ⟨fun a U g mk q => ⟨q.1, tk_E.call q.2.1, q.2.2⟩, fun U hU hW => ⟨rfl, tk_E.warm hW hE, by rw [hU]; exact (fun k q h => by simp at h)⟩⟩ rfl rfl hl.1 rfl (lv_room (Nat.le_of_ble_eq_true rfl)) dB_unpin_1 ⟨Nat.zero_le _, Nat.zero_le _⟩)) (fun r_1 er_1 => ?_)
  replace er_1 := er_1.trans (tk_is1 (N := 12) ex hn (by decide))
  subst er_1
  refine lv_if_eq (tgt := 19) hx hb dB_unpin_4 (by decide) (fun c_2 => ?_) (fun c_2 => ?_)
  · exact absurd c_2 (by decide)
  · refine lv_aload_n hx hb dB_unpin_7 rfl (lv_at hl 0 rfl) ?_
    refine va_get (D := (dC, dI)) (ci := 3) (v := .ref fa) (C := RB) (T := TB) (N := 4) hx hb hts (inC inB) hown hK hP 0 rfl rfl 2 (by decide) (hq _ wi_116) (fun _ h9 => h9) rfl dB_unpin_8 ?_
    refine lv_iload_n hx hb dB_unpin_11 rfl (lv_at hl 1 rfl) ?_
    refine tk_aald (n := n) (y := fr n) hx hb hK hP 4 1 rfl rfl ex hn (by decide) rfl dB_unpin_12 ?_
    refine vp_callSi (va_Run.run (va_runV (As := []) (rest := []) ⟨hx, hb, hml, hown, hts⟩ (c_F_hasPins l dC dI ka (fr n) (fb n) (pg n) (pn n) (us n) (di n)) (cwV 0 hts (tw_V wi_134 wi_135 wi_136 wi_27 wi_137) rfl rfl rfl (by decide +kernel) ⟨Nat.le_of_ble_eq_true rfl, Nat.le_of_ble_eq_true rfl⟩) ⟨fun a U g mk q => ⟨q.1, tk_E.call q.2.1, q.2.2⟩, va_recv hK hP (ci := 1) (q0 := (5 + n)) rfl (dw_fr hn), fun U hU hW => ⟨rfl, tk_E.warm hW hE, by rw [hU]; exact (tk_one hP (k := 5 + n) (dw_fr hn))⟩⟩ rfl rfl hl.1 rfl (lv_room (Nat.le_of_ble_eq_true rfl)) dB_unpin_13 ⟨Nat.zero_le _, Nat.zero_le _⟩)) (fun r_3 er_3 => ?_)
    replace er_3 := er_3.trans (if_neg hp)
    subst er_3
    refine lv_if_ne (tgt := 21) hx hb dB_unpin_16 (by decide) (fun c_4 => ?_) (fun c_4 => ?_)
    · refine lv_aload_n hx hb dB_unpin_21 rfl (lv_at hl 0 rfl) ?_
      refine va_get (D := (dC, dI)) (ci := 3) (v := .ref fa) (C := RB) (T := TB) (N := 4) hx hb hts (inC inB) hown hK hP 0 rfl rfl 2 (by decide) (hq _ wi_116) (fun _ h9 => h9) rfl dB_unpin_22 ?_
      refine lv_iload_n hx hb dB_unpin_25 rfl (lv_at hl 1 rfl) ?_
      refine tk_aald (n := n) (y := fr n) hx hb hK hP 4 1 rfl rfl ex hn (by decide) rfl dB_unpin_26 ?_
      have hFc := tk_free1 (k := 5 + n) hD hS hA (dw_fr hn)
      refine va_callv (va_runV (As := []) (rest := []) ⟨hx, hb, hml, hown, hts⟩ (c_F_dropPin l dC dI ka _ (fr n) (fb n) (pg n) (pn n) (us n) (di n)) (cwV 0 hts (tw_V wi_138 wi_139 wi_140 wi_27 wi_141) rfl rfl rfl (by decide +kernel) ⟨Nat.le_of_ble_eq_true rfl, Nat.le_of_ble_eq_true rfl⟩) ⟨fun a U g mk q => ⟨q.1, q.2.1, tk_E.call q.2.2.1, q.2.2.2⟩, va_recv hK hP (ci := 1) (q0 := (5 + n)) rfl (dw_fr hn), fun U hU hW => ⟨rfl, by rw [hU], tk_E.warm hW hE, by rw [hU]; exact (tk_one hP (k := 5 + n) (dw_fr hn)), tk_done⟩⟩ rfl rfl hl.1 rfl (lv_room (Nat.le_of_ble_eq_true rfl)) dB_unpin_27 ⟨Nat.zero_le _, Nat.zero_le _⟩) hS (fun q _ h => hFc q h) hFc (fun u_5 t H1 locs ht hvm hw hB hz1 hk1 hS => ?_)
      have hB : va_P (dC, dI) clB [((fr n), .inr (1, [.ref (fb n), .int (pg n), .int ((pn n) - 1), .int (us n), .int (di n)]))] H1 := by rw [← ht]; exact hB
      obtain ⟨hP, hD⟩ := tk_join1 (k := 5 + n) hP hD (dw_fr hn) hk1 hB
      generalize H1 = H at hP hS ⊢
      have hP : va_P (dC, dI) clB (dw h dr db lg fa fr fb ka pg (upd pn n ((pn n) - 1)) us di bt dk lf wn rd en fl hd) H := (by rw [← dw_set_p hn]; exact hP)
      have hD : va_D A (dw h dr db lg fa fr fb ka pg (upd pn n ((pn n) - 1)) us di bt dk lf wn rd en fl hd) := dw_D hDw
      refine lv_iconst (v := 1) hx hb dB_unpin_30 (by decide) ?_
      exact W.zret (v := 1) (ty := .boolean) hx hb hr rfl (fun t ht hW => ⟨⟨1, (), rfl, rfl, by show va_P _ _ _ t.heap; rw [ht]; exact hP⟩, hS.F ht⟩) hS.2.2 dB_unpin_31
    · exact absurd c_4 (by decide)
end
section
set_option maxHeartbeats 4000000 in
set_option maxRecDepth 100000 in
theorem c_B_set_f0 (l : Launch) (dC : Nat → ClassId) (dI : Nat → Nat → Nat) (ka : Nat → ClassId) (sz : Nat) (h dr db lg fa : Nat) (fr fb : Nat → Nat) (pg pn us di : Nat → Int32) (bt : Nat → Nat → Int32) (dk : Nat → Int32) (lf wn rd en fl hd : Int32) (x y v pl : Int32) (hx0 : x < 0 ∨ nI 12 ≤ x) : Met l yB_set wB_set ({ frames := 1, cells := 0, slots := 0, locals := 20 }) (va_Pc [.ref h, .int x, .int y, .int v, .int pl] (fun U => U.heap.size = sz ∧ tk_E dC dI ka U ∧ va_P (dC, dI) clB (dw h dr db lg fa fr fb ka pg pn us di bt dk lf wn rd en fl hd) U.heap ∧ va_D (fun _ => True) (dw h dr db lg fa fr fb ka pg pn us di bt dk lf wn rd en fl hd))) (va_Qi (fun (r : Int32) (_ : Unit) => r = 0) (fun _ t => va_P (dC, dI) clB (dw h dr db lg fa fr fb ka pg pn us di bt dk lf wn rd en fl hd) t.heap) (va_A (dw h dr db lg fa fr fb ka pg pn us di bt dk lf wn rd en fl hd) sz)) 0 0 (va_A (dw h dr db lg fa fr fb ka pg pn us di bt dk lf wn rd en fl hd) sz) := by
  refine Met.ofW (cc := cB_set) (maxL := 5) (ret := (some .boolean)) (by decide) rfl ?_
  intro p e s m args below meth c s₁ B hml hv
  obtain ⟨rfl, hsz, hE, hP, hD0⟩ := hv
  have hx := B.exec
  have hb := B.bytes
  have hr := B.returns
  have hts := atoms_spec (ws := wB_set) B.pre
  have hq : ∀ w ∈ lwg, w.before _ s = true := fun w h => hts w (List.mem_cons_of_mem _ h)
  have hown : s.vm.findClass RB = some m.cls := findClass_of_methodNamed B.named
  have hlocks := B.notSynchronized
  have hK := hE.1
  have hN := hE.2
  subst hsz
  have hD := hD0.self (sz := s.heap.size)
  generalize hAe : va_A (dw h dr db lg fa fr fb ka pg pn us di bt dk lf wn rd en fl hd) s.heap.size = A at hD ⊢
  have hA : ∀ q : Nat, s.heap.size ≤ q → A q := fun q h => by rw [← hAe]; exact Or.inr h
  have hS : va_S A s.heap s.heap [] := va_S.rf
  have hDw := hD
  have hP : va_P (dC, dI) clB (dw h dr db lg fa fr fb ka pg pn us di bt dk lf wn rd en fl hd) s.heap := hP
  have hl := lv_entry ([.ref h, .int x, .int y, .int v, .int pl]) (n := 5) (Nat.le_of_ble_eq_true rfl)
  rw [lg_entry_eq]
  generalize (lg_sl ([.ref h, .int x, .int y, .int v, .int pl]) ++ List.replicate (5 - (lg_sl ([.ref h, .int x, .int y, .int v, .int pl])).length) Slot.unset).toArray = ls at hl ⊢
  have hl : lv_has ls 5 [(0, .ref h), (1, .int x), (2, .int y), (3, .int v), (4, .int pl)] := hl
  refine lv_iload_n hx hb dB_set_0 rfl (lv_at hl 1 rfl) ?_
  refine vp_callSi (va_Run.run (va_runS (As := [.int x]) (rest := []) ⟨hx, hb, hml, hown, hts⟩ (c_B_isFrame l dC dI ka x) (cwS 1 hts (tw_S wi_131 wi_132 wi_24 wi_133) rfl rfl rfl (by decide +kernel) ⟨Nat.le_of_ble_eq_true rfl, Nat.le_of_ble_eq_true rfl⟩) ⟨fun a U g mk q => ⟨q.1, tk_E.call q.2.1, q.2.2⟩, fun U hU hW => ⟨rfl, tk_E.warm hW hE, by rw [hU]; exact (fun k q h => by simp at h)⟩⟩ rfl rfl hl.1 rfl (lv_room (Nat.le_of_ble_eq_true rfl)) dB_set_1 ⟨Nat.zero_le _, Nat.zero_le _⟩)) (fun r_1 er_1 => ?_)
  replace er_1 := er_1.trans (tk_is0 (N := 12) hx0)
  subst er_1
  refine lv_if_eq (tgt := 20) hx hb dB_set_4 (by decide) (fun c_2 => ?_) (fun c_2 => ?_)
  · refine lv_iconst (v := 0) hx hb dB_set_20 (by decide) ?_
    exact W.zret (v := 0) (ty := .boolean) hx hb hr rfl (fun t ht hW => ⟨⟨0, (), rfl, rfl, by show va_P _ _ _ t.heap; rw [ht]; exact hP⟩, hS.F ht⟩) hS.2.2 dB_set_21
  · exact absurd c_2 (by decide)

set_option maxHeartbeats 4000000 in
set_option maxRecDepth 100000 in
theorem c_B_set_i0 (l : Launch) (dC : Nat → ClassId) (dI : Nat → Nat → Nat) (ka : Nat → ClassId) (sz : Nat) (h dr db lg fa : Nat) (fr fb : Nat → Nat) (pg pn us di : Nat → Int32) (bt : Nat → Nat → Int32) (dk : Nat → Int32) (lf wn rd en fl hd : Int32) (x y v pl : Int32) (n : Nat) (ex : x = nI n) (hn : n < 12) (hy : y < 6 ∨ ¬ y ≤ 509) : Met l yB_set wB_set ({ frames := 1, cells := 0, slots := 0, locals := 20 }) (va_Pc [.ref h, .int x, .int y, .int v, .int pl] (fun U => U.heap.size = sz ∧ tk_E dC dI ka U ∧ va_P (dC, dI) clB (dw h dr db lg fa fr fb ka pg pn us di bt dk lf wn rd en fl hd) U.heap ∧ va_D (fun _ => True) (dw h dr db lg fa fr fb ka pg pn us di bt dk lf wn rd en fl hd))) (va_Qi (fun (r : Int32) (_ : Unit) => r = 0) (fun _ t => va_P (dC, dI) clB (dw h dr db lg fa fr fb ka pg pn us di bt dk lf wn rd en fl hd) t.heap) (va_A (dw h dr db lg fa fr fb ka pg pn us di bt dk lf wn rd en fl hd) sz)) 0 0 (va_A (dw h dr db lg fa fr fb ka pg pn us di bt dk lf wn rd en fl hd) sz) := by
  refine Met.ofW (cc := cB_set) (maxL := 5) (ret := (some .boolean)) (by decide) rfl ?_
  intro p e s m args below meth c s₁ B hml hv
  obtain ⟨rfl, hsz, hE, hP, hD0⟩ := hv
  have hx := B.exec
  have hb := B.bytes
  have hr := B.returns
  have hts := atoms_spec (ws := wB_set) B.pre
  have hq : ∀ w ∈ lwg, w.before _ s = true := fun w h => hts w (List.mem_cons_of_mem _ h)
  have hown : s.vm.findClass RB = some m.cls := findClass_of_methodNamed B.named
  have hlocks := B.notSynchronized
  have hK := hE.1
  have hN := hE.2
  subst hsz
  have hD := hD0.self (sz := s.heap.size)
  generalize hAe : va_A (dw h dr db lg fa fr fb ka pg pn us di bt dk lf wn rd en fl hd) s.heap.size = A at hD ⊢
  have hA : ∀ q : Nat, s.heap.size ≤ q → A q := fun q h => by rw [← hAe]; exact Or.inr h
  have hS : va_S A s.heap s.heap [] := va_S.rf
  have hDw := hD
  have hP : va_P (dC, dI) clB (dw h dr db lg fa fr fb ka pg pn us di bt dk lf wn rd en fl hd) s.heap := hP
  have hl := lv_entry ([.ref h, .int x, .int y, .int v, .int pl]) (n := 5) (Nat.le_of_ble_eq_true rfl)
  rw [lg_entry_eq]
  generalize (lg_sl ([.ref h, .int x, .int y, .int v, .int pl]) ++ List.replicate (5 - (lg_sl ([.ref h, .int x, .int y, .int v, .int pl])).length) Slot.unset).toArray = ls at hl ⊢
  have hl : lv_has ls 5 [(0, .ref h), (1, .int x), (2, .int y), (3, .int v), (4, .int pl)] := hl
  refine lv_iload_n hx hb dB_set_0 rfl (lv_at hl 1 rfl) ?_
  refine vp_callSi (va_Run.run (va_runS (As := [.int x]) (rest := []) ⟨hx, hb, hml, hown, hts⟩ (c_B_isFrame l dC dI ka x) (cwS 1 hts (tw_S wi_131 wi_132 wi_24 wi_133) rfl rfl rfl (by decide +kernel) ⟨Nat.le_of_ble_eq_true rfl, Nat.le_of_ble_eq_true rfl⟩) ⟨fun a U g mk q => ⟨q.1, tk_E.call q.2.1, q.2.2⟩, fun U hU hW => ⟨rfl, tk_E.warm hW hE, by rw [hU]; exact (fun k q h => by simp at h)⟩⟩ rfl rfl hl.1 rfl (lv_room (Nat.le_of_ble_eq_true rfl)) dB_set_1 ⟨Nat.zero_le _, Nat.zero_le _⟩)) (fun r_1 er_1 => ?_)
  replace er_1 := er_1.trans (tk_is1 (N := 12) ex hn (by decide))
  subst er_1
  refine lv_if_eq (tgt := 20) hx hb dB_set_4 (by decide) (fun c_2 => ?_) (fun c_2 => ?_)
  · exact absurd c_2 (by decide)
  · refine lv_iload_n hx hb dB_set_7 rfl (lv_at hl 2 rfl) ?_
    refine lv_bipush (v := 6) hx hb dB_set_8 (by decide) ?_
    refine lv_icmp_lt (tgt := 20) hx hb dB_set_10 (by decide) (fun c_3 => ?_) (fun c_3 => ?_)
    · refine lv_iconst (v := 0) hx hb dB_set_20 (by decide) ?_
      exact W.zret (v := 0) (ty := .boolean) hx hb hr rfl (fun t ht hW => ⟨⟨0, (), rfl, rfl, by show va_P _ _ _ t.heap; rw [ht]; exact hP⟩, hS.F ht⟩) hS.2.2 dB_set_21
    · refine lv_iload_n hx hb dB_set_13 rfl (lv_at hl 2 rfl) ?_
      refine lv_sipush (v := 509) hx hb dB_set_14 (by decide) ?_
      refine lv_icmp_le (tgt := 22) hx hb dB_set_17 (by decide) (fun c_4 => ?_) (fun c_4 => ?_)
      · exact absurd c_4 (hy.resolve_left c_3)
      · refine lv_iconst (v := 0) hx hb dB_set_20 (by decide) ?_
        exact W.zret (v := 0) (ty := .boolean) hx hb hr rfl (fun t ht hW => ⟨⟨0, (), rfl, rfl, by show va_P _ _ _ t.heap; rw [ht]; exact hP⟩, hS.F ht⟩) hS.2.2 dB_set_21

set_option maxHeartbeats 4000000 in
set_option maxRecDepth 100000 in
theorem c_B_set_n0 (l : Launch) (dC : Nat → ClassId) (dI : Nat → Nat → Nat) (ka : Nat → ClassId) (sz : Nat) (h dr db lg fa : Nat) (fr fb : Nat → Nat) (pg pn us di : Nat → Int32) (bt : Nat → Nat → Int32) (dk : Nat → Int32) (lf wn rd en fl hd : Int32) (x y v pl : Int32) (n k : Nat) (ex : x = nI n) (hn : n < 12) (ey : y = nI k) (hk1 : 6 ≤ k) (hk2 : k ≤ 509) (hp : pn n ≤ 0) : Met l yB_set wB_set ({ frames := 1, cells := 0, slots := 0, locals := 20 }) (va_Pc [.ref h, .int x, .int y, .int v, .int pl] (fun U => U.heap.size = sz ∧ tk_E dC dI ka U ∧ va_P (dC, dI) clB (dw h dr db lg fa fr fb ka pg pn us di bt dk lf wn rd en fl hd) U.heap ∧ va_D (fun _ => True) (dw h dr db lg fa fr fb ka pg pn us di bt dk lf wn rd en fl hd))) (va_Qi (fun (r : Int32) (_ : Unit) => r = 0) (fun _ t => va_P (dC, dI) clB (dw h dr db lg fa fr fb ka pg pn us di bt dk lf wn rd en fl hd) t.heap) (va_A (dw h dr db lg fa fr fb ka pg pn us di bt dk lf wn rd en fl hd) sz)) 0 0 (va_A (dw h dr db lg fa fr fb ka pg pn us di bt dk lf wn rd en fl hd) sz) := by
  refine Met.ofW (cc := cB_set) (maxL := 5) (ret := (some .boolean)) (by decide) rfl ?_
  intro p e s m args below meth c s₁ B hml hv
  obtain ⟨rfl, hsz, hE, hP, hD0⟩ := hv
  have hx := B.exec
  have hb := B.bytes
  have hr := B.returns
  have hts := atoms_spec (ws := wB_set) B.pre
  have hq : ∀ w ∈ lwg, w.before _ s = true := fun w h => hts w (List.mem_cons_of_mem _ h)
  have hown : s.vm.findClass RB = some m.cls := findClass_of_methodNamed B.named
  have hlocks := B.notSynchronized
  have hK := hE.1
  have hN := hE.2
  subst hsz
  have hD := hD0.self (sz := s.heap.size)
  generalize hAe : va_A (dw h dr db lg fa fr fb ka pg pn us di bt dk lf wn rd en fl hd) s.heap.size = A at hD ⊢
  have hA : ∀ q : Nat, s.heap.size ≤ q → A q := fun q h => by rw [← hAe]; exact Or.inr h
  have hS : va_S A s.heap s.heap [] := va_S.rf
  have hDw := hD
  have hP : va_P (dC, dI) clB (dw h dr db lg fa fr fb ka pg pn us di bt dk lf wn rd en fl hd) s.heap := hP
  have hl := lv_entry ([.ref h, .int x, .int y, .int v, .int pl]) (n := 5) (Nat.le_of_ble_eq_true rfl)
  rw [lg_entry_eq]
  generalize (lg_sl ([.ref h, .int x, .int y, .int v, .int pl]) ++ List.replicate (5 - (lg_sl ([.ref h, .int x, .int y, .int v, .int pl])).length) Slot.unset).toArray = ls at hl ⊢
  have hl : lv_has ls 5 [(0, .ref h), (1, .int x), (2, .int y), (3, .int v), (4, .int pl)] := hl
  refine lv_iload_n hx hb dB_set_0 rfl (lv_at hl 1 rfl) ?_
  refine vp_callSi (va_Run.run (va_runS (As := [.int x]) (rest := []) ⟨hx, hb, hml, hown, hts⟩ (c_B_isFrame l dC dI ka x) (cwS 1 hts (tw_S wi_131 wi_132 wi_24 wi_133) rfl rfl rfl (by decide +kernel) ⟨Nat.le_of_ble_eq_true rfl, Nat.le_of_ble_eq_true rfl⟩) ⟨fun a U g mk q => ⟨q.1, tk_E.call q.2.1, q.2.2⟩, fun U hU hW => ⟨rfl, tk_E.warm hW hE, by rw [hU]; exact (fun k q h => by simp at h)⟩⟩ rfl rfl hl.1 rfl (lv_room (Nat.le_of_ble_eq_true rfl)) dB_set_1 ⟨Nat.zero_le _, Nat.zero_le _⟩)) (fun r_1 er_1 => ?_)
  replace er_1 := er_1.trans (tk_is1 (N := 12) ex hn (by decide))
  subst er_1
  refine lv_if_eq (tgt := 20) hx hb dB_set_4 (by decide) (fun c_2 => ?_) (fun c_2 => ?_)
  · exact absurd c_2 (by decide)
  · refine lv_iload_n hx hb dB_set_7 rfl (lv_at hl 2 rfl) ?_
    refine lv_bipush (v := 6) hx hb dB_set_8 (by decide) ?_
    refine lv_icmp_lt (tgt := 20) hx hb dB_set_10 (by decide) (fun c_3 => ?_) (fun c_3 => ?_)
    · exact absurd c_3 (by rw [ey]; exact nI_nlt (b := 6) hk1 (by omega))
    · refine lv_iload_n hx hb dB_set_13 rfl (lv_at hl 2 rfl) ?_
      refine lv_sipush (v := 509) hx hb dB_set_14 (by decide) ?_
      refine lv_icmp_le (tgt := 22) hx hb dB_set_17 (by decide) (fun c_4 => ?_) (fun c_4 => ?_)
      · refine lv_aload_n hx hb dB_set_22 rfl (lv_at hl 0 rfl) ?_
        refine va_get (D := (dC, dI)) (ci := 3) (v := .ref fa) (C := RB) (T := TB) (N := 4) hx hb hts (inC inB) hown hK hP 0 rfl rfl 2 (by decide) (hq _ wi_116) (fun _ h9 => h9) rfl dB_set_23 ?_
        refine lv_iload_n hx hb dB_set_26 rfl (lv_at hl 1 rfl) ?_
        refine tk_aald (n := n) (y := fr n) hx hb hK hP 4 1 rfl rfl ex hn (by decide) rfl dB_set_27 ?_
        refine vp_callSi (va_Run.run (va_runV (As := []) (rest := []) ⟨hx, hb, hml, hown, hts⟩ (c_F_hasPins l dC dI ka (fr n) (fb n) (pg n) (pn n) (us n) (di n)) (cwV 0 hts (tw_V wi_134 wi_135 wi_136 wi_27 wi_137) rfl rfl rfl (by decide +kernel) ⟨Nat.le_of_ble_eq_true rfl, Nat.le_of_ble_eq_true rfl⟩) ⟨fun a U g mk q => ⟨q.1, tk_E.call q.2.1, q.2.2⟩, va_recv hK hP (ci := 1) (q0 := (5 + n)) rfl (dw_fr hn), fun U hU hW => ⟨rfl, tk_E.warm hW hE, by rw [hU]; exact (tk_one hP (k := 5 + n) (dw_fr hn))⟩⟩ rfl rfl hl.1 rfl (lv_room (Nat.le_of_ble_eq_true rfl)) dB_set_28 ⟨Nat.zero_le _, Nat.zero_le _⟩)) (fun r_5 er_5 => ?_)
        replace er_5 := er_5.trans (if_pos hp)
        subst er_5
        refine lv_if_eq (tgt := 48) hx hb dB_set_31 (by decide) (fun c_6 => ?_) (fun c_6 => ?_)
        · refine lv_iconst (v := 0) hx hb dB_set_48 (by decide) ?_
          exact W.zret (v := 0) (ty := .boolean) hx hb hr rfl (fun t ht hW => ⟨⟨0, (), rfl, rfl, by show va_P _ _ _ t.heap; rw [ht]; exact hP⟩, hS.F ht⟩) hS.2.2 dB_set_49
        · exact absurd c_6 (by decide)
      · exact absurd (by rw [ey]; exact nI_le (b := 509) hk2 (by decide)) c_4

set_option maxHeartbeats 4000000 in
set_option maxRecDepth 100000 in
theorem c_B_set_p0 (l : Launch) (dC : Nat → ClassId) (dI : Nat → Nat → Nat) (ka : Nat → ClassId) (sz : Nat) (h dr db lg fa : Nat) (fr fb : Nat → Nat) (pg pn us di : Nat → Int32) (bt : Nat → Nat → Int32) (dk : Nat → Int32) (lf wn rd en fl hd : Int32) (x y v pl : Int32) (n k : Nat) (ex : x = nI n) (hn : n < 12) (ey : y = nI k) (hk1 : 6 ≤ k) (hk2 : k ≤ 509) (hp : ¬ pn n ≤ 0) (hpl : ¬ plB (bt n) ≤ pl) : Met l yB_set wB_set ({ frames := 2, cells := 0, slots := 0, locals := 41 }) (va_Pc [.ref h, .int x, .int y, .int v, .int pl] (fun U => U.heap.size = sz ∧ tk_E dC dI ka U ∧ va_P (dC, dI) clB (dw h dr db lg fa fr fb ka pg pn us di bt dk lf wn rd en fl hd) U.heap ∧ va_D (fun _ => True) (dw h dr db lg fa fr fb ka pg pn us di bt dk lf wn rd en fl hd))) (va_Qi (fun (r : Int32) (_ : Unit) => r = 0) (fun _ t => va_P (dC, dI) clB (dw h dr db lg fa fr fb ka pg pn us di bt dk lf wn rd en fl hd) t.heap) (va_A (dw h dr db lg fa fr fb ka pg pn us di bt dk lf wn rd en fl hd) sz)) 0 0 (va_A (dw h dr db lg fa fr fb ka pg pn us di bt dk lf wn rd en fl hd) sz) := by
  refine Met.ofW (cc := cB_set) (maxL := 5) (ret := (some .boolean)) (by decide) rfl ?_
  intro p e s m args below meth c s₁ B hml hv
  obtain ⟨rfl, hsz, hE, hP, hD0⟩ := hv
  have hx := B.exec
  have hb := B.bytes
  have hr := B.returns
  have hts := atoms_spec (ws := wB_set) B.pre
  have hq : ∀ w ∈ lwg, w.before _ s = true := fun w h => hts w (List.mem_cons_of_mem _ h)
  have hown : s.vm.findClass RB = some m.cls := findClass_of_methodNamed B.named
  have hlocks := B.notSynchronized
  have hK := hE.1
  have hN := hE.2
  subst hsz
  have hD := hD0.self (sz := s.heap.size)
  generalize hAe : va_A (dw h dr db lg fa fr fb ka pg pn us di bt dk lf wn rd en fl hd) s.heap.size = A at hD ⊢
  have hA : ∀ q : Nat, s.heap.size ≤ q → A q := fun q h => by rw [← hAe]; exact Or.inr h
  have hS : va_S A s.heap s.heap [] := va_S.rf
  have hDw := hD
  have hP : va_P (dC, dI) clB (dw h dr db lg fa fr fb ka pg pn us di bt dk lf wn rd en fl hd) s.heap := hP
  have hl := lv_entry ([.ref h, .int x, .int y, .int v, .int pl]) (n := 5) (Nat.le_of_ble_eq_true rfl)
  rw [lg_entry_eq]
  generalize (lg_sl ([.ref h, .int x, .int y, .int v, .int pl]) ++ List.replicate (5 - (lg_sl ([.ref h, .int x, .int y, .int v, .int pl])).length) Slot.unset).toArray = ls at hl ⊢
  have hl : lv_has ls 5 [(0, .ref h), (1, .int x), (2, .int y), (3, .int v), (4, .int pl)] := hl
  refine lv_iload_n hx hb dB_set_0 rfl (lv_at hl 1 rfl) ?_
  refine vp_callSi (va_Run.run (va_runS (As := [.int x]) (rest := []) ⟨hx, hb, hml, hown, hts⟩ (c_B_isFrame l dC dI ka x) (cwS 1 hts (tw_S wi_131 wi_132 wi_24 wi_133) rfl rfl rfl (by decide +kernel) ⟨Nat.le_of_ble_eq_true rfl, Nat.le_of_ble_eq_true rfl⟩) ⟨fun a U g mk q => ⟨q.1, tk_E.call q.2.1, q.2.2⟩, fun U hU hW => ⟨rfl, tk_E.warm hW hE, by rw [hU]; exact (fun k q h => by simp at h)⟩⟩ rfl rfl hl.1 rfl (lv_room (Nat.le_of_ble_eq_true rfl)) dB_set_1 ⟨Nat.zero_le _, Nat.zero_le _⟩)) (fun r_1 er_1 => ?_)
  replace er_1 := er_1.trans (tk_is1 (N := 12) ex hn (by decide))
  subst er_1
  refine lv_if_eq (tgt := 20) hx hb dB_set_4 (by decide) (fun c_2 => ?_) (fun c_2 => ?_)
  · exact absurd c_2 (by decide)
  · refine lv_iload_n hx hb dB_set_7 rfl (lv_at hl 2 rfl) ?_
    refine lv_bipush (v := 6) hx hb dB_set_8 (by decide) ?_
    refine lv_icmp_lt (tgt := 20) hx hb dB_set_10 (by decide) (fun c_3 => ?_) (fun c_3 => ?_)
    · exact absurd c_3 (by rw [ey]; exact nI_nlt (b := 6) hk1 (by omega))
    · refine lv_iload_n hx hb dB_set_13 rfl (lv_at hl 2 rfl) ?_
      refine lv_sipush (v := 509) hx hb dB_set_14 (by decide) ?_
      refine lv_icmp_le (tgt := 22) hx hb dB_set_17 (by decide) (fun c_4 => ?_) (fun c_4 => ?_)
      · refine lv_aload_n hx hb dB_set_22 rfl (lv_at hl 0 rfl) ?_
        refine va_get (D := (dC, dI)) (ci := 3) (v := .ref fa) (C := RB) (T := TB) (N := 4) hx hb hts (inC inB) hown hK hP 0 rfl rfl 2 (by decide) (hq _ wi_116) (fun _ h9 => h9) rfl dB_set_23 ?_
        refine lv_iload_n hx hb dB_set_26 rfl (lv_at hl 1 rfl) ?_
        refine tk_aald (n := n) (y := fr n) hx hb hK hP 4 1 rfl rfl ex hn (by decide) rfl dB_set_27 ?_
        refine vp_callSi (va_Run.run (va_runV (As := []) (rest := []) ⟨hx, hb, hml, hown, hts⟩ (c_F_hasPins l dC dI ka (fr n) (fb n) (pg n) (pn n) (us n) (di n)) (cwV 0 hts (tw_V wi_134 wi_135 wi_136 wi_27 wi_137) rfl rfl rfl (by decide +kernel) ⟨Nat.le_of_ble_eq_true rfl, Nat.le_of_ble_eq_true rfl⟩) ⟨fun a U g mk q => ⟨q.1, tk_E.call q.2.1, q.2.2⟩, va_recv hK hP (ci := 1) (q0 := (5 + n)) rfl (dw_fr hn), fun U hU hW => ⟨rfl, tk_E.warm hW hE, by rw [hU]; exact (tk_one hP (k := 5 + n) (dw_fr hn))⟩⟩ rfl rfl hl.1 rfl (lv_room (Nat.le_of_ble_eq_true rfl)) dB_set_28 ⟨Nat.zero_le _, Nat.zero_le _⟩)) (fun r_5 er_5 => ?_)
        replace er_5 := er_5.trans (if_neg hp)
        subst er_5
        refine lv_if_eq (tgt := 48) hx hb dB_set_31 (by decide) (fun c_6 => ?_) (fun c_6 => ?_)
        · exact absurd c_6 (by decide)
        · refine lv_iload hx hb dB_set_34 (lv_at hl 4 rfl) ?_
          refine lv_aload_n hx hb dB_set_36 rfl (lv_at hl 0 rfl) ?_
          refine va_get (D := (dC, dI)) (ci := 3) (v := .ref fa) (C := RB) (T := TB) (N := 4) hx hb hts (inC inB) hown hK hP 0 rfl rfl 2 (by decide) (hq _ wi_116) (fun _ h9 => h9) rfl dB_set_37 ?_
          refine lv_iload_n hx hb dB_set_40 rfl (lv_at hl 1 rfl) ?_
          refine tk_aald (n := n) (y := fr n) hx hb hK hP 4 1 rfl rfl ex hn (by decide) rfl dB_set_41 ?_
          refine vp_callSi (va_Run.run (va_runV (As := []) (rest := [.int pl]) ⟨hx, hb, hml, hown, hts⟩ (c_F_place l dC dI ka (fr n) (fb n) (pg n) (pn n) (us n) (di n) (bt n)) (cwV 0 hts (tw_V wi_157 wi_158 wi_159 wi_27 wi_160) rfl rfl rfl (by decide +kernel) ⟨Nat.le_of_ble_eq_true rfl, Nat.le_of_ble_eq_true rfl⟩) ⟨fun a U g mk q => ⟨q.1, tk_E.call q.2.1, q.2.2⟩, va_recv hK hP (ci := 1) (q0 := (5 + n)) rfl (dw_fr hn), fun U hU hW => ⟨rfl, tk_E.warm hW hE, by rw [hU]; exact (tk_two hP (k := 5 + n) (k' := 17 + n) (dw_fr hn) (dw_fb hn))⟩⟩ rfl rfl hl.1 rfl (lv_room (Nat.le_of_ble_eq_true rfl)) dB_set_42 ⟨Nat.zero_le _, Nat.zero_le _⟩)) (fun r_7 er_7 => ?_)
          subst er_7
          refine lv_icmp_ge (tgt := 50) hx hb dB_set_45 (by decide) (fun c_8 => ?_) (fun c_8 => ?_)
          · exact absurd c_8 hpl
          · refine lv_iconst (v := 0) hx hb dB_set_48 (by decide) ?_
            exact W.zret (v := 0) (ty := .boolean) hx hb hr rfl (fun t ht hW => ⟨⟨0, (), rfl, rfl, by show va_P _ _ _ t.heap; rw [ht]; exact hP⟩, hS.F ht⟩) hS.2.2 dB_set_49
      · exact absurd (by rw [ey]; exact nI_le (b := 509) hk2 (by decide)) c_4

set_option maxHeartbeats 4000000 in
set_option maxRecDepth 100000 in
theorem c_B_set_in (l : Launch) (dC : Nat → ClassId) (dI : Nat → Nat → Nat) (ka : Nat → ClassId) (sz : Nat) (h dr db lg fa : Nat) (fr fb : Nat → Nat) (pg pn us di : Nat → Int32) (bt : Nat → Nat → Int32) (dk : Nat → Int32) (lf wn rd en fl hd : Int32) (x y v pl : Int32) (n k : Nat) (ex : x = nI n) (hn : n < 12) (ey : y = nI k) (hk1 : 6 ≤ k) (hk2 : k ≤ 509) (hp : ¬ pn n ≤ 0) (hpl : plB (bt n) ≤ pl) : Met l yB_set wB_set ({ frames := 2, cells := 0, slots := 0, locals := 41 }) (va_Pc [.ref h, .int x, .int y, .int v, .int pl] (fun U => U.heap.size = sz ∧ tk_E dC dI ka U ∧ va_P (dC, dI) clB (dw h dr db lg fa fr fb ka pg pn us di bt dk lf wn rd en fl hd) U.heap ∧ va_D (fun _ => True) (dw h dr db lg fa fr fb ka pg pn us di bt dk lf wn rd en fl hd))) (va_Qi (fun (r : Int32) (_ : Unit) => r = 1) (fun _ t => va_P (dC, dI) clB (dw h dr db lg fa fr fb ka pg pn us (upd di n 1) (va_up bt n (chB (bt n) k v pl)) dk lf wn rd en fl hd) t.heap) (va_A (dw h dr db lg fa fr fb ka pg pn us di bt dk lf wn rd en fl hd) sz)) 0 0 (va_A (dw h dr db lg fa fr fb ka pg pn us di bt dk lf wn rd en fl hd) sz) := by
  refine Met.ofW (cc := cB_set) (maxL := 5) (ret := (some .boolean)) (by decide) rfl ?_
  intro p e s m args below meth c s₁ B hml hv
  obtain ⟨rfl, hsz, hE, hP, hD0⟩ := hv
  have hx := B.exec
  have hb := B.bytes
  have hr := B.returns
  have hts := atoms_spec (ws := wB_set) B.pre
  have hq : ∀ w ∈ lwg, w.before _ s = true := fun w h => hts w (List.mem_cons_of_mem _ h)
  have hown : s.vm.findClass RB = some m.cls := findClass_of_methodNamed B.named
  have hlocks := B.notSynchronized
  have hK := hE.1
  have hN := hE.2
  subst hsz
  have hD := hD0.self (sz := s.heap.size)
  generalize hAe : va_A (dw h dr db lg fa fr fb ka pg pn us di bt dk lf wn rd en fl hd) s.heap.size = A at hD ⊢
  have hA : ∀ q : Nat, s.heap.size ≤ q → A q := fun q h => by rw [← hAe]; exact Or.inr h
  have hS : va_S A s.heap s.heap [] := va_S.rf
  have hDw := hD
  have hP : va_P (dC, dI) clB (dw h dr db lg fa fr fb ka pg pn us di bt dk lf wn rd en fl hd) s.heap := hP
  have hl := lv_entry ([.ref h, .int x, .int y, .int v, .int pl]) (n := 5) (Nat.le_of_ble_eq_true rfl)
  rw [lg_entry_eq]
  generalize (lg_sl ([.ref h, .int x, .int y, .int v, .int pl]) ++ List.replicate (5 - (lg_sl ([.ref h, .int x, .int y, .int v, .int pl])).length) Slot.unset).toArray = ls at hl ⊢
  have hl : lv_has ls 5 [(0, .ref h), (1, .int x), (2, .int y), (3, .int v), (4, .int pl)] := hl
  refine lv_iload_n hx hb dB_set_0 rfl (lv_at hl 1 rfl) ?_
  refine vp_callSi (va_Run.run (va_runS (As := [.int x]) (rest := []) ⟨hx, hb, hml, hown, hts⟩ (c_B_isFrame l dC dI ka x) (cwS 1 hts (tw_S wi_131 wi_132 wi_24 wi_133) rfl rfl rfl (by decide +kernel) ⟨Nat.le_of_ble_eq_true rfl, Nat.le_of_ble_eq_true rfl⟩) ⟨fun a U g mk q => ⟨q.1, tk_E.call q.2.1, q.2.2⟩, fun U hU hW => ⟨rfl, tk_E.warm hW hE, by rw [hU]; exact (fun k q h => by simp at h)⟩⟩ rfl rfl hl.1 rfl (lv_room (Nat.le_of_ble_eq_true rfl)) dB_set_1 ⟨Nat.zero_le _, Nat.zero_le _⟩)) (fun r_1 er_1 => ?_)
  replace er_1 := er_1.trans (tk_is1 (N := 12) ex hn (by decide))
  subst er_1
  refine lv_if_eq (tgt := 20) hx hb dB_set_4 (by decide) (fun c_2 => ?_) (fun c_2 => ?_)
  · exact absurd c_2 (by decide)
  · refine lv_iload_n hx hb dB_set_7 rfl (lv_at hl 2 rfl) ?_
    refine lv_bipush (v := 6) hx hb dB_set_8 (by decide) ?_
    refine lv_icmp_lt (tgt := 20) hx hb dB_set_10 (by decide) (fun c_3 => ?_) (fun c_3 => ?_)
    · exact absurd c_3 (by rw [ey]; exact nI_nlt (b := 6) hk1 (by omega))
    · refine lv_iload_n hx hb dB_set_13 rfl (lv_at hl 2 rfl) ?_
      refine lv_sipush (v := 509) hx hb dB_set_14 (by decide) ?_
      refine lv_icmp_le (tgt := 22) hx hb dB_set_17 (by decide) (fun c_4 => ?_) (fun c_4 => ?_)
      · refine lv_aload_n hx hb dB_set_22 rfl (lv_at hl 0 rfl) ?_
        refine va_get (D := (dC, dI)) (ci := 3) (v := .ref fa) (C := RB) (T := TB) (N := 4) hx hb hts (inC inB) hown hK hP 0 rfl rfl 2 (by decide) (hq _ wi_116) (fun _ h9 => h9) rfl dB_set_23 ?_
        refine lv_iload_n hx hb dB_set_26 rfl (lv_at hl 1 rfl) ?_
        refine tk_aald (n := n) (y := fr n) hx hb hK hP 4 1 rfl rfl ex hn (by decide) rfl dB_set_27 ?_
        refine vp_callSi (va_Run.run (va_runV (As := []) (rest := []) ⟨hx, hb, hml, hown, hts⟩ (c_F_hasPins l dC dI ka (fr n) (fb n) (pg n) (pn n) (us n) (di n)) (cwV 0 hts (tw_V wi_134 wi_135 wi_136 wi_27 wi_137) rfl rfl rfl (by decide +kernel) ⟨Nat.le_of_ble_eq_true rfl, Nat.le_of_ble_eq_true rfl⟩) ⟨fun a U g mk q => ⟨q.1, tk_E.call q.2.1, q.2.2⟩, va_recv hK hP (ci := 1) (q0 := (5 + n)) rfl (dw_fr hn), fun U hU hW => ⟨rfl, tk_E.warm hW hE, by rw [hU]; exact (tk_one hP (k := 5 + n) (dw_fr hn))⟩⟩ rfl rfl hl.1 rfl (lv_room (Nat.le_of_ble_eq_true rfl)) dB_set_28 ⟨Nat.zero_le _, Nat.zero_le _⟩)) (fun r_5 er_5 => ?_)
        replace er_5 := er_5.trans (if_neg hp)
        subst er_5
        refine lv_if_eq (tgt := 48) hx hb dB_set_31 (by decide) (fun c_6 => ?_) (fun c_6 => ?_)
        · exact absurd c_6 (by decide)
        · refine lv_iload hx hb dB_set_34 (lv_at hl 4 rfl) ?_
          refine lv_aload_n hx hb dB_set_36 rfl (lv_at hl 0 rfl) ?_
          refine va_get (D := (dC, dI)) (ci := 3) (v := .ref fa) (C := RB) (T := TB) (N := 4) hx hb hts (inC inB) hown hK hP 0 rfl rfl 2 (by decide) (hq _ wi_116) (fun _ h9 => h9) rfl dB_set_37 ?_
          refine lv_iload_n hx hb dB_set_40 rfl (lv_at hl 1 rfl) ?_
          refine tk_aald (n := n) (y := fr n) hx hb hK hP 4 1 rfl rfl ex hn (by decide) rfl dB_set_41 ?_
          refine vp_callSi (va_Run.run (va_runV (As := []) (rest := [.int pl]) ⟨hx, hb, hml, hown, hts⟩ (c_F_place l dC dI ka (fr n) (fb n) (pg n) (pn n) (us n) (di n) (bt n)) (cwV 0 hts (tw_V wi_157 wi_158 wi_159 wi_27 wi_160) rfl rfl rfl (by decide +kernel) ⟨Nat.le_of_ble_eq_true rfl, Nat.le_of_ble_eq_true rfl⟩) ⟨fun a U g mk q => ⟨q.1, tk_E.call q.2.1, q.2.2⟩, va_recv hK hP (ci := 1) (q0 := (5 + n)) rfl (dw_fr hn), fun U hU hW => ⟨rfl, tk_E.warm hW hE, by rw [hU]; exact (tk_two hP (k := 5 + n) (k' := 17 + n) (dw_fr hn) (dw_fb hn))⟩⟩ rfl rfl hl.1 rfl (lv_room (Nat.le_of_ble_eq_true rfl)) dB_set_42 ⟨Nat.zero_le _, Nat.zero_le _⟩)) (fun r_7 er_7 => ?_)
          subst er_7
          refine lv_icmp_ge (tgt := 50) hx hb dB_set_45 (by decide) (fun c_8 => ?_) (fun c_8 => ?_)
          · refine lv_aload_n hx hb dB_set_50 rfl (lv_at hl 0 rfl) ?_
            refine va_get (D := (dC, dI)) (ci := 3) (v := .ref fa) (C := RB) (T := TB) (N := 4) hx hb hts (inC inB) hown hK hP 0 rfl rfl 2 (by decide) (hq _ wi_116) (fun _ h9 => h9) rfl dB_set_51 ?_
            refine lv_iload_n hx hb dB_set_54 rfl (lv_at hl 1 rfl) ?_
            refine tk_aald (n := n) (y := fr n) hx hb hK hP 4 1 rfl rfl ex hn (by decide) rfl dB_set_55 ?_
            refine lv_iload_n hx hb dB_set_56 rfl (lv_at hl 2 rfl) ?_
            refine lv_iload_n hx hb dB_set_57 rfl (lv_at hl 3 rfl) ?_
            refine lv_iload hx hb dB_set_58 (lv_at hl 4 rfl) ?_
            have hFc := tk_free2 (k := 5 + n) (k' := 17 + n) hD hS hA (dw_fr hn) (dw_fb hn)
            refine va_callv (va_runV (As := [.int y, .int v, .int pl]) (rest := []) ⟨hx, hb, hml, hown, hts⟩ (c_F_change l dC dI ka _ (fr n) (fb n) (pg n) (pn n) (us n) (di n) (bt n) y v pl k ey (by omega)) (cwV 3 hts (tw_V wi_164 wi_165 wi_166 wi_27 wi_167) rfl rfl rfl (by decide +kernel) ⟨Nat.le_of_ble_eq_true rfl, Nat.le_of_ble_eq_true rfl⟩) ⟨fun a U g mk q => ⟨q.1, q.2.1, tk_E.call q.2.2.1, q.2.2.2⟩, va_recv hK hP (ci := 1) (q0 := (5 + n)) rfl (dw_fr hn), fun U hU hW => ⟨rfl, by rw [hU], tk_E.warm hW hE, by rw [hU]; exact (tk_two hP (k := 5 + n) (k' := 17 + n) (dw_fr hn) (dw_fb hn)), (tk_dtwo hD (k := 5 + n) (k' := 17 + n) (dw_fr hn) (dw_fb hn) (by omega))⟩⟩ rfl rfl hl.1 rfl (lv_room (Nat.le_of_ble_eq_true rfl)) dB_set_60 ⟨Nat.zero_le _, Nat.zero_le _⟩) hS (fun q _ h => hFc q h) hFc (fun u_9 t H1 locs ht hvm hw hB hz1 hk1 hS => ?_)
            have hB : va_P (dC, dI) clB [((fr n), .inr (1, [.ref (fb n), .int (pg n), .int (pn n), .int (us n), .int 1])), ((fb n), .inl (ka 0, 512, .inl (chB (bt n) k v pl)))] H1 := by rw [← ht]; exact hB
            obtain ⟨hP, hD⟩ := tk_join2 (k := 5 + n) (k' := 17 + n) hP hD (dw_fr hn) (dw_fb hn) (by omega) hk1 hB
            generalize H1 = H at hP hS ⊢
            have hP : va_P (dC, dI) clB (dw h dr db lg fa fr fb ka pg pn us (upd di n 1) (va_up bt n (chB (bt n) k v pl)) dk lf wn rd en fl hd) H := (by rw [← dw_set_fb hn, ← dw_set_d hn]; exact hP)
            have hD : va_D A (dw h dr db lg fa fr fb ka pg pn us (upd di n 1) (va_up bt n (chB (bt n) k v pl)) dk lf wn rd en fl hd) := dw_D hDw
            refine lv_iconst (v := 1) hx hb dB_set_63 (by decide) ?_
            exact W.zret (v := 1) (ty := .boolean) hx hb hr rfl (fun t ht hW => ⟨⟨1, (), rfl, rfl, by show va_P _ _ _ t.heap; rw [ht]; exact hP⟩, hS.F ht⟩) hS.2.2 dB_set_64
          · exact absurd hpl c_8
      · exact absurd (by rw [ey]; exact nI_le (b := 509) hk2 (by decide)) c_4

/-- the frame behind -/
def nxt (h : Nat) : Nat := if h + 1 < 12 then h + 1 else 0
theorem nxt_lt {h : Nat} : nxt h < 12 := by unfold nxt; split <;> omega
theorem nxt_nI {h : Nat} (hh : h < 12) : (if (12 : Int32) ≤ nI h + 1 then (0 : Int32) else nI h + 1) = nI (nxt h) := by
  rw [nI_1]
  unfold nxt
  show (if nI 12 ≤ nI (h + 1) then (0 : Int32) else nI (h + 1)) = _
  by_cases g : h + 1 < 12
  · rw [if_neg (nI_ge (b := 12) g (by decide)), if_pos g]
  · rw [if_pos (nI_le (a := 12) (b := h + 1) (by omega) (by omega)), if_neg g]
    rfl
/-- the hand's way: k steps at most -/
def hbU (pn : Nat → Int32) : Nat → (Nat → Int32) × Nat → (Nat → Int32) × Nat
  | 0, s => s
  | k + 1, s => if pn s.2 = 0 ∧ s.1 s.2 = 0 then s else hbU pn k (upd s.1 s.2 (if pn s.2 = 0 then (if s.1 s.2 ≤ 0 then s.1 s.2 else s.1 s.2 - 1) else s.1 s.2), nxt s.2)
theorem hbU_succ (pn : Nat → Int32) (k : Nat) (s : (Nat → Int32) × Nat) : hbU pn (k + 1) s = if pn s.2 = 0 ∧ s.1 s.2 = 0 then s else hbU pn k (upd s.1 s.2 (if pn s.2 = 0 then (if s.1 s.2 ≤ 0 then s.1 s.2 else s.1 s.2 - 1) else s.1 s.2), nxt s.2) := rfl
theorem hbU_lt (pn : Nat → Int32) : ∀ (k : Nat) (s : (Nat → Int32) × Nat), s.2 < 12 → (hbU pn k s).2 < 12
  | 0, s, h => h
  | k + 1, s, h => by
    unfold hbU
    split
    · exact h
    · exact hbU_lt pn k _ nxt_lt
theorem tk_can {a b : Int32} (h : ¬ (if a = 0 then (if b = 0 then (1 : Int32) else 0) else 0) = 0) : a = 0 ∧ b = 0 := by
  by_cases ha : a = 0
  · by_cases hb : b = 0
    · exact ⟨ha, hb⟩
    · simp [ha, hb] at h
  · simp [ha] at h
theorem tk_cannot {a b : Int32} (h : (if a = 0 then (if b = 0 then (1 : Int32) else 0) else 0) = 0) : ¬ (a = 0 ∧ b = 0) := by
  rintro ⟨ha, hb⟩
  simp [ha, hb] at h

set_option maxHeartbeats 4000000 in
set_option maxRecDepth 100000 in
theorem c_B_frameByHand (l : Launch) (dC : Nat → ClassId) (dI : Nat → Nat → Nat) (ka : Nat → ClassId) (sz : Nat) (h dr db lg fa : Nat) (fr fb : Nat → Nat) (pg pn us di : Nat → Int32) (bt : Nat → Nat → Int32) (dk : Nat → Int32) (lf wn rd en fl : Int32) (q : Nat) (hq0 : q < 12) : Met l yB_frameByHand wB_frameByHand ({ frames := 1, cells := 0, slots := 0, locals := 20 }) (va_Pc [.ref h] (fun U => U.heap.size = sz ∧ tk_E dC dI ka U ∧ va_P (dC, dI) clB (dw h dr db lg fa fr fb ka pg pn us di bt dk lf wn rd en fl (nI q)) U.heap ∧ va_D (fun _ => True) (dw h dr db lg fa fr fb ka pg pn us di bt dk lf wn rd en fl (nI q)))) (va_Qi (fun (r : Int32) (_ : Unit) => r = nI (hbU pn 48 (us, q)).2) (fun _ t => va_P (dC, dI) clB (dw h dr db lg fa fr fb ka pg pn ((hbU pn 48 (us, q)).1) di bt dk lf wn rd en fl (nI (nxt (hbU pn 48 (us, q)).2))) t.heap) (va_A (dw h dr db lg fa fr fb ka pg pn us di bt dk lf wn rd en fl (nI q)) sz)) 0 0 (va_A (dw h dr db lg fa fr fb ka pg pn us di bt dk lf wn rd en fl (nI q)) sz) := by
  refine Met.ofW (cc := cB_frameByHand) (maxL := 2) (ret := (some .int)) (by decide) rfl ?_
  intro p e s m args below meth c s₁ B hml hv
  obtain ⟨rfl, hsz, hE, hP, hD0⟩ := hv
  have hx := B.exec
  have hb := B.bytes
  have hr := B.returns
  have hts := atoms_spec (ws := wB_frameByHand) B.pre
  have hq : ∀ w ∈ lwg, w.before _ s = true := fun w h => hts w (List.mem_cons_of_mem _ h)
  have hown : s.vm.findClass RB = some m.cls := findClass_of_methodNamed B.named
  have hlocks := B.notSynchronized
  have hK := hE.1
  have hN := hE.2
  subst hsz
  have hD := hD0.self (sz := s.heap.size)
  generalize hAe : va_A (dw h dr db lg fa fr fb ka pg pn us di bt dk lf wn rd en fl (nI q)) s.heap.size = A at hD ⊢
  have hA : ∀ q : Nat, s.heap.size ≤ q → A q := fun q h => by rw [← hAe]; exact Or.inr h
  have hS : va_S A s.heap s.heap [] := va_S.rf
  have hDw := hD
  have hP : va_P (dC, dI) clB (dw h dr db lg fa fr fb ka pg pn us di bt dk lf wn rd en fl (nI q)) s.heap := hP
  have hl := lv_entry ([.ref h]) (n := 2) (Nat.le_of_ble_eq_true rfl)
  rw [lg_entry_eq]
  generalize (lg_sl ([.ref h]) ++ List.replicate (2 - (lg_sl ([.ref h])).length) Slot.unset).toArray = ls at hl ⊢
  have hl : lv_has ls 2 [(0, .ref h)] := hl
  refine lv_iconst (v := 0) hx hb dB_frameByHand_0 (by decide) ?_
  refine lv_istore_n (lv' := [(1, .int 0), (0, .ref h)]) hx hb dB_frameByHand_1 rfl hl (by decide) rfl (fun ls hl => ?_)
  refine tk_loop 2 (fun (n : Nat) (y : Nat × ((Nat → Int32) × Nat)) H locs ls => (y.1 ≤ 48) ∧ (n = 48 - y.1) ∧ (y.2.2 < 12) ∧ ((hbU pn 48 (us, q)) = hbU pn (48 - y.1) y.2) ∧ va_P (dC, dI) clB (dw h dr db lg fa fr fb ka pg pn y.2.1 di bt dk lf wn rd en fl (nI y.2.2)) H ∧ va_D A (dw h dr db lg fa fr fb ka pg pn y.2.1 di bt dk lf wn rd en fl (nI y.2.2)) ∧ va_S A s.heap H locs ∧ lv_has ls 2 [(0, .ref h), (1, .int (nI y.1))]) ?_ 48 (0, (us, q)) ⟨Nat.zero_le _, rfl, hq0, rfl, hP, hD, hS, lv_sub hl [1, 0] rfl⟩
  skip
  intro n y H locs ls hI ih
  obtain ⟨hi, hn, hy2, heq, hP, hD, hS, hl⟩ := hI
  refine lv_iload_n hx hb dB_frameByHand_2 rfl (lv_at hl 1 rfl) ?_
  refine lv_bipush (v := 48) hx hb dB_frameByHand_3 (by decide) ?_
  refine lv_icmp_ge (tgt := 52) hx hb dB_frameByHand_5 (by decide) (fun c_1 => ?_) (fun c_1 => ?_)
  · have hfin : (hbU pn 48 (us, q)) = y.2 := by rw [heq, show 48 - y.1 = 0 by (have := (nI_leI (a := 48) (b := y.1) (by decide) (by omega)).mp c_1; omega)]; rfl
    refine lv_aload_n hx hb dB_frameByHand_52 rfl (lv_at hl 0 rfl) ?_
    refine va_get (D := (dC, dI)) (ci := 3) (v := .int (nI y.2.2)) (C := RB) (T := TB) (N := 4) hx hb hts (inC inB) hown hK hP 0 rfl rfl 3 (by decide) (hq _ wi_117) (fun _ h9 => h9) rfl dB_frameByHand_53 ?_
    refine lv_istore_n (lv' := [(1, .int (nI y.2.2)), (0, .ref h)]) hx hb dB_frameByHand_56 rfl hl (by decide) rfl (fun ls hl => ?_)
    refine lv_aload_n hx hb dB_frameByHand_57 rfl (lv_at hl 1 rfl) ?_
    refine lv_iload_n hx hb dB_frameByHand_58 rfl (lv_at hl 0 rfl) ?_
    refine vp_callSi (va_Run.run (va_runS (As := [.int (nI y.2.2)]) (rest := [.ref h]) ⟨hx, hb, hml, hown, hts⟩ (c_B_frameBehind l dC dI ka (nI y.2.2)) (cwS 1 hts (tw_S wi_354 wi_355 wi_24 wi_356) rfl rfl rfl (by decide +kernel) ⟨Nat.le_of_ble_eq_true rfl, Nat.le_of_ble_eq_true rfl⟩) ⟨fun a U g mk q => ⟨q.1, tk_E.call q.2.1, q.2.2⟩, fun U hU hW => ⟨rfl, tk_E.warm hW hE, by rw [hU]; exact (fun k q h => by simp at h)⟩⟩ rfl rfl hl.1 rfl (lv_room (Nat.le_of_ble_eq_true rfl)) dB_frameByHand_59 ⟨Nat.zero_le _, Nat.zero_le _⟩)) (fun r_2 er_2 => ?_)
    replace er_2 := er_2.trans (nxt_nI hy2)
    subst er_2
    refine va_put (D := (dC, dI)) (ci := 3) (v := .int (nI (nxt y.2.2))) (ty := .int) (C := RB) (T := TB) (N := 4) hx hb hts (inC inB) tyB tyB_ok nmB hown hK hP hD hS 0 rfl rfl 3 (by decide) (hq _ wi_117) (fun _ h9 => h9) rfl (by decide +kernel) rfl rfl (Nat.le_of_ble_eq_true rfl) dB_frameByHand_62 (fun H locs hP hD hS => ?_)
    have hP : va_P (dC, dI) clB (dw h dr db lg fa fr fb ka pg pn y.2.1 di bt dk lf wn rd en fl (nI (nxt y.2.2))) H := hP
    have hD : va_D A (dw h dr db lg fa fr fb ka pg pn y.2.1 di bt dk lf wn rd en fl (nI (nxt y.2.2))) := dw_D hDw
    refine lv_iload_n hx hb dB_frameByHand_65 rfl (lv_at hl 0 rfl) ?_
    exact W.iret (v := (nI y.2.2)) hx hb hr (fun t ht hW => ⟨⟨(nI y.2.2), (), rfl, (by rw [hfin]), by show va_P _ _ _ t.heap; rw [ht]; exact (by rw [hfin]; exact hP)⟩, hS.F ht⟩) hS.2.2 dB_frameByHand_66
  · refine lv_aload_n hx hb dB_frameByHand_8 rfl (lv_at hl 0 rfl) ?_
    refine va_get (D := (dC, dI)) (ci := 3) (v := .ref fa) (C := RB) (T := TB) (N := 4) hx hb hts (inC inB) hown hK hP 0 rfl rfl 2 (by decide) (hq _ wi_116) (fun _ h9 => h9) rfl dB_frameByHand_9 ?_
    refine lv_aload_n hx hb dB_frameByHand_12 rfl (lv_at hl 0 rfl) ?_
    refine va_get (D := (dC, dI)) (ci := 3) (v := .int (nI y.2.2)) (C := RB) (T := TB) (N := 4) hx hb hts (inC inB) hown hK hP 0 rfl rfl 3 (by decide) (hq _ wi_117) (fun _ h9 => h9) rfl dB_frameByHand_13 ?_
    refine tk_aald (n := y.2.2) (y := fr y.2.2) hx hb hK hP 4 1 rfl rfl rfl hy2 (by decide) rfl dB_frameByHand_16 ?_
    refine vp_callSi (va_Run.run (va_runV (As := []) (rest := []) ⟨hx, hb, hml, hown, hts⟩ (c_F_canBeTaken l dC dI ka (fr y.2.2) (fb y.2.2) (pg y.2.2) (pn y.2.2) (y.2.1 y.2.2) (di y.2.2)) (cwV 0 hts (tw_V wi_346 wi_347 wi_348 wi_27 wi_349) rfl rfl rfl (by decide +kernel) ⟨Nat.le_of_ble_eq_true rfl, Nat.le_of_ble_eq_true rfl⟩) ⟨fun a U g mk q => ⟨q.1, tk_E.call q.2.1, q.2.2⟩, va_recv hK hP (ci := 1) (q0 := (5 + y.2.2)) rfl (dw_fr hy2), fun U hU hW => ⟨rfl, tk_E.warm hW hE, by rw [hU]; exact (tk_one hP (k := 5 + y.2.2) (dw_fr hy2))⟩⟩ rfl rfl hl.1 rfl (lv_room (Nat.le_of_ble_eq_true rfl)) dB_frameByHand_17 ⟨Nat.zero_le _, Nat.zero_le _⟩)) (fun r_3 er_3 => ?_)
    subst er_3
    refine lv_if_ne (tgt := 52) hx hb dB_frameByHand_20 (by decide) (fun c_4 => ?_) (fun c_4 => ?_)
    · have hfin : (hbU pn 48 (us, q)) = y.2 := by rw [heq, show 48 - y.1 = (47 - y.1) + 1 by (have := mt (nI_leI (a := 48) (b := y.1) (by decide) (by omega)).mpr c_1; omega), hbU_succ, if_pos (tk_can c_4)]
      refine lv_aload_n hx hb dB_frameByHand_52 rfl (lv_at hl 0 rfl) ?_
      refine va_get (D := (dC, dI)) (ci := 3) (v := .int (nI y.2.2)) (C := RB) (T := TB) (N := 4) hx hb hts (inC inB) hown hK hP 0 rfl rfl 3 (by decide) (hq _ wi_117) (fun _ h9 => h9) rfl dB_frameByHand_53 ?_
      refine lv_istore_n (lv' := [(1, .int (nI y.2.2)), (0, .ref h)]) hx hb dB_frameByHand_56 rfl hl (by decide) rfl (fun ls hl => ?_)
      refine lv_aload_n hx hb dB_frameByHand_57 rfl (lv_at hl 1 rfl) ?_
      refine lv_iload_n hx hb dB_frameByHand_58 rfl (lv_at hl 0 rfl) ?_
      refine vp_callSi (va_Run.run (va_runS (As := [.int (nI y.2.2)]) (rest := [.ref h]) ⟨hx, hb, hml, hown, hts⟩ (c_B_frameBehind l dC dI ka (nI y.2.2)) (cwS 1 hts (tw_S wi_354 wi_355 wi_24 wi_356) rfl rfl rfl (by decide +kernel) ⟨Nat.le_of_ble_eq_true rfl, Nat.le_of_ble_eq_true rfl⟩) ⟨fun a U g mk q => ⟨q.1, tk_E.call q.2.1, q.2.2⟩, fun U hU hW => ⟨rfl, tk_E.warm hW hE, by rw [hU]; exact (fun k q h => by simp at h)⟩⟩ rfl rfl hl.1 rfl (lv_room (Nat.le_of_ble_eq_true rfl)) dB_frameByHand_59 ⟨Nat.zero_le _, Nat.zero_le _⟩)) (fun r_5 er_5 => ?_)
      replace er_5 := er_5.trans (nxt_nI hy2)
      subst er_5
      refine va_put (D := (dC, dI)) (ci := 3) (v := .int (nI (nxt y.2.2))) (ty := .int) (C := RB) (T := TB) (N := 4) hx hb hts (inC inB) tyB tyB_ok nmB hown hK hP hD hS 0 rfl rfl 3 (by decide) (hq _ wi_117) (fun _ h9 => h9) rfl (by decide +kernel) rfl rfl (Nat.le_of_ble_eq_true rfl) dB_frameByHand_62 (fun H locs hP hD hS => ?_)
      have hP : va_P (dC, dI) clB (dw h dr db lg fa fr fb ka pg pn y.2.1 di bt dk lf wn rd en fl (nI (nxt y.2.2))) H := hP
      have hD : va_D A (dw h dr db lg fa fr fb ka pg pn y.2.1 di bt dk lf wn rd en fl (nI (nxt y.2.2))) := dw_D hDw
      refine lv_iload_n hx hb dB_frameByHand_65 rfl (lv_at hl 0 rfl) ?_
      exact W.iret (v := (nI y.2.2)) hx hb hr (fun t ht hW => ⟨⟨(nI y.2.2), (), rfl, (by rw [hfin]), by show va_P _ _ _ t.heap; rw [ht]; exact (by rw [hfin]; exact hP)⟩, hS.F ht⟩) hS.2.2 dB_frameByHand_66
    · refine lv_aload_n hx hb dB_frameByHand_23 rfl (lv_at hl 0 rfl) ?_
      refine va_get (D := (dC, dI)) (ci := 3) (v := .ref fa) (C := RB) (T := TB) (N := 4) hx hb hts (inC inB) hown hK hP 0 rfl rfl 2 (by decide) (hq _ wi_116) (fun _ h9 => h9) rfl dB_frameByHand_24 ?_
      refine lv_aload_n hx hb dB_frameByHand_27 rfl (lv_at hl 0 rfl) ?_
      refine va_get (D := (dC, dI)) (ci := 3) (v := .int (nI y.2.2)) (C := RB) (T := TB) (N := 4) hx hb hts (inC inB) hown hK hP 0 rfl rfl 3 (by decide) (hq _ wi_117) (fun _ h9 => h9) rfl dB_frameByHand_28 ?_
      refine tk_aald (n := y.2.2) (y := fr y.2.2) hx hb hK hP 4 1 rfl rfl rfl hy2 (by decide) rfl dB_frameByHand_31 ?_
      have hFc := tk_free1 (k := 5 + y.2.2) hD hS hA (dw_fr hy2)
      refine va_callv (va_runV (As := []) (rest := []) ⟨hx, hb, hml, hown, hts⟩ (c_F_passBy l dC dI ka _ (fr y.2.2) (fb y.2.2) (pg y.2.2) (pn y.2.2) (y.2.1 y.2.2) (di y.2.2)) (cwV 0 hts (tw_V wi_350 wi_351 wi_352 wi_27 wi_353) rfl rfl rfl (by decide +kernel) ⟨Nat.le_of_ble_eq_true rfl, Nat.le_of_ble_eq_true rfl⟩) ⟨fun a U g mk q => ⟨q.1, q.2.1, tk_E.call q.2.2.1, q.2.2.2⟩, va_recv hK hP (ci := 1) (q0 := (5 + y.2.2)) rfl (dw_fr hy2), fun U hU hW => ⟨rfl, by rw [hU], tk_E.warm hW hE, by rw [hU]; exact (tk_one hP (k := 5 + y.2.2) (dw_fr hy2)), tk_done⟩⟩ rfl rfl hl.1 rfl (lv_room (Nat.le_of_ble_eq_true rfl)) dB_frameByHand_32 ⟨Nat.zero_le _, Nat.zero_le _⟩) hS (fun q _ h => hFc q h) hFc (fun u_6 t H1 locs ht hvm hw hB hz1 hk1 hS => ?_)
      have hB : va_P (dC, dI) clB [((fr y.2.2), .inr (1, [.ref (fb y.2.2), .int (pg y.2.2), .int (pn y.2.2), .int (if (pn y.2.2) = 0 then (if (y.2.1 y.2.2) ≤ 0 then (y.2.1 y.2.2) else (y.2.1 y.2.2) - 1) else (y.2.1 y.2.2)), .int (di y.2.2)]))] H1 := by rw [← ht]; exact hB
      obtain ⟨hP, hD⟩ := tk_join1 (k := 5 + y.2.2) hP hD (dw_fr hy2) hk1 hB
      generalize H1 = H at hP hS ⊢
      have hP : va_P (dC, dI) clB (dw h dr db lg fa fr fb ka pg pn (upd y.2.1 y.2.2 (if (pn y.2.2) = 0 then (if (y.2.1 y.2.2) ≤ 0 then (y.2.1 y.2.2) else (y.2.1 y.2.2) - 1) else (y.2.1 y.2.2))) di bt dk lf wn rd en fl (nI y.2.2)) H := (by rw [← dw_set_u hy2]; exact hP)
      have hD : va_D A (dw h dr db lg fa fr fb ka pg pn (upd y.2.1 y.2.2 (if (pn y.2.2) = 0 then (if (y.2.1 y.2.2) ≤ 0 then (y.2.1 y.2.2) else (y.2.1 y.2.2) - 1) else (y.2.1 y.2.2))) di bt dk lf wn rd en fl (nI y.2.2)) := dw_D hDw
      refine lv_aload_n hx hb dB_frameByHand_35 rfl (lv_at hl 0 rfl) ?_
      refine lv_aload_n hx hb dB_frameByHand_36 rfl (lv_at hl 0 rfl) ?_
      refine va_get (D := (dC, dI)) (ci := 3) (v := .int (nI y.2.2)) (C := RB) (T := TB) (N := 4) hx hb hts (inC inB) hown hK hP 0 rfl rfl 3 (by decide) (hq _ wi_117) (fun _ h9 => h9) rfl dB_frameByHand_37 ?_
      refine vp_callSi (va_Run.run (va_runS (As := [.int (nI y.2.2)]) (rest := [.ref h]) ⟨hx, hb, hml, hown, hts⟩ (c_B_frameBehind l dC dI ka (nI y.2.2)) (cwS 1 hts (tw_S wi_354 wi_355 wi_24 wi_356) rfl rfl rfl (by decide +kernel) ⟨Nat.le_of_ble_eq_true rfl, Nat.le_of_ble_eq_true rfl⟩) ⟨fun a U g mk q => ⟨q.1, tk_E.call q.2.1, q.2.2⟩, fun U hU hW => ⟨rfl, tk_E.warm hW hE, by rw [hU]; exact (fun k q h => by simp at h)⟩⟩ rfl rfl hl.1 rfl (lv_room (Nat.le_of_ble_eq_true rfl)) dB_frameByHand_40 ⟨Nat.zero_le _, Nat.zero_le _⟩)) (fun r_8 er_8 => ?_)
      replace er_8 := er_8.trans (nxt_nI hy2)
      subst er_8
      refine va_put (D := (dC, dI)) (ci := 3) (v := .int (nI (nxt y.2.2))) (ty := .int) (C := RB) (T := TB) (N := 4) hx hb hts (inC inB) tyB tyB_ok nmB hown hK hP hD hS 0 rfl rfl 3 (by decide) (hq _ wi_117) (fun _ h9 => h9) rfl (by decide +kernel) rfl rfl (Nat.le_of_ble_eq_true rfl) dB_frameByHand_43 (fun H locs hP hD hS => ?_)
      have hP : va_P (dC, dI) clB (dw h dr db lg fa fr fb ka pg pn (upd y.2.1 y.2.2 (if (pn y.2.2) = 0 then (if (y.2.1 y.2.2) ≤ 0 then (y.2.1 y.2.2) else (y.2.1 y.2.2) - 1) else (y.2.1 y.2.2))) di bt dk lf wn rd en fl (nI (nxt y.2.2))) H := hP
      have hD : va_D A (dw h dr db lg fa fr fb ka pg pn (upd y.2.1 y.2.2 (if (pn y.2.2) = 0 then (if (y.2.1 y.2.2) ≤ 0 then (y.2.1 y.2.2) else (y.2.1 y.2.2) - 1) else (y.2.1 y.2.2))) di bt dk lf wn rd en fl (nI (nxt y.2.2))) := dw_D hDw
      refine lv_iinc (v := ((nI y.1) + 1)) (lv' := [(1, .int ((nI y.1) + 1)), (0, .ref h)]) hx hb dB_frameByHand_46 hl (k := 1) rfl rfl (by decide) rfl (fun ls hl => ?_)
      refine lv_goto (tgt := 2) hx hb dB_frameByHand_49 (by decide) ?_
      have hz : y.1 < 48 := by have := mt (nI_leI (a := 48) (b := y.1) (by decide) (by omega)).mpr c_1; omega
      exact ih (n - 1) (y.1 + 1, (upd y.2.1 y.2.2 (if (pn y.2.2) = 0 then (if (y.2.1 y.2.2) ≤ 0 then (y.2.1 y.2.2) else (y.2.1 y.2.2) - 1) else (y.2.1 y.2.2)), nxt y.2.2)) _ _ _ (by omega) ⟨by omega, by omega, nxt_lt, (by rw [heq, show 48 - y.1 = (48 - (y.1 + 1)) + 1 by omega, hbU_succ, if_neg (tk_cannot c_4)]), hP, hD, hS, lv_sub hl [1, 0] (by rw [← nI_1 y.1]; rfl)⟩

def dropF (c : Int32) (f : Nat → Int32) (z : Nat) : Nat → Int32 := fun i => if i < z then c else f i
theorem dropF_0 (c : Int32) (f : Nat → Int32) : dropF c f 0 = f := by funext i; simp [dropF]
theorem dropF_s (c : Int32) (f : Nat → Int32) (z : Nat) : upd (dropF c f z) z c = dropF c f (z + 1) := by
  funext i
  by_cases h : i = z
  · simp [upd, dropF, h]
  · by_cases g : i < z
    · simp [upd, dropF, h, g]; omega
    · have : ¬ i < z + 1 := by omega
      simp [upd, dropF, h, g, this]

set_option maxHeartbeats 4000000 in
set_option maxRecDepth 100000 in
theorem c_B_losePower (l : Launch) (dC : Nat → ClassId) (dI : Nat → Nat → Nat) (ka : Nat → ClassId) (sz : Nat) (h dr db lg fa : Nat) (fr fb : Nat → Nat) (pg pn us di : Nat → Int32) (bt : Nat → Nat → Int32) (dk : Nat → Int32) (lf wn rd en fl hd : Int32) : Met l yB_losePower wB_losePower ({ frames := 1, cells := 0, slots := 0, locals := 20 }) (va_Pc [.ref h] (fun U => U.heap.size = sz ∧ tk_E dC dI ka U ∧ va_P (dC, dI) clB (dw h dr db lg fa fr fb ka pg pn us di bt dk lf wn rd en fl hd) U.heap ∧ va_D (fun _ => True) (dw h dr db lg fa fr fb ka pg pn us di bt dk lf wn rd en fl hd))) (va_Qv (fun _ : Unit => True) (fun _ t => va_P (dC, dI) clB (dw h dr db lg fa fr fb ka (dropF (-1) pg 12) (dropF 0 pn 12) (dropF 0 us 12) (dropF 0 di 12) bt dk (-1) wn rd en fl 0) t.heap) (va_A (dw h dr db lg fa fr fb ka pg pn us di bt dk lf wn rd en fl hd) sz)) 0 0 (va_A (dw h dr db lg fa fr fb ka pg pn us di bt dk lf wn rd en fl hd) sz) := by
  refine Met.ofW (cc := cB_losePower) (maxL := 2) (ret := none) (by decide) rfl ?_
  intro p e s m args below meth c s₁ B hml hv
  obtain ⟨rfl, hsz, hE, hP, hD0⟩ := hv
  have hx := B.exec
  have hb := B.bytes
  have hr := B.returns
  have hts := atoms_spec (ws := wB_losePower) B.pre
  have hq : ∀ w ∈ lwg, w.before _ s = true := fun w h => hts w (List.mem_cons_of_mem _ h)
  have hown : s.vm.findClass RB = some m.cls := findClass_of_methodNamed B.named
  have hlocks := B.notSynchronized
  have hK := hE.1
  have hN := hE.2
  subst hsz
  have hD := hD0.self (sz := s.heap.size)
  generalize hAe : va_A (dw h dr db lg fa fr fb ka pg pn us di bt dk lf wn rd en fl hd) s.heap.size = A at hD ⊢
  have hA : ∀ q : Nat, s.heap.size ≤ q → A q := fun q h => by rw [← hAe]; exact Or.inr h
  have hS : va_S A s.heap s.heap [] := va_S.rf
  have hDw := hD
  have hP : va_P (dC, dI) clB (dw h dr db lg fa fr fb ka pg pn us di bt dk lf wn rd en fl hd) s.heap := hP
  have hl := lv_entry ([.ref h]) (n := 2) (Nat.le_of_ble_eq_true rfl)
  rw [lg_entry_eq]
  generalize (lg_sl ([.ref h]) ++ List.replicate (2 - (lg_sl ([.ref h])).length) Slot.unset).toArray = ls at hl ⊢
  have hl : lv_has ls 2 [(0, .ref h)] := hl
  refine lv_iconst (v := 0) hx hb dB_losePower_0 (by decide) ?_
  refine lv_istore_n (lv' := [(1, .int 0), (0, .ref h)]) hx hb dB_losePower_1 rfl hl (by decide) rfl (fun ls hl => ?_)
  refine tk_loop 2 (fun (n : Nat) (z : Nat) H locs ls => (z ≤ 12) ∧ (n = 12 - z) ∧ va_P (dC, dI) clB (dw h dr db lg fa fr fb ka (dropF (-1) pg z) (dropF 0 pn z) (dropF 0 us z) (dropF 0 di z) bt dk lf wn rd en fl hd) H ∧ va_D A (dw h dr db lg fa fr fb ka (dropF (-1) pg z) (dropF 0 pn z) (dropF 0 us z) (dropF 0 di z) bt dk lf wn rd en fl hd) ∧ va_S A s.heap H locs ∧ lv_has ls 2 [(0, .ref h), (1, .int (nI z))]) ?_ 12 0 ⟨(by decide), rfl, (by rw [dropF_0, dropF_0, dropF_0, dropF_0]; exact hP), (dw_D hDw), hS, lv_sub hl [1, 0] rfl⟩
  skip
  intro n z H locs ls hI ih
  obtain ⟨hi, hn, hP, hD, hS, hl⟩ := hI
  refine lv_iload_n hx hb dB_losePower_2 rfl (lv_at hl 1 rfl) ?_
  refine lv_bipush (v := 12) hx hb dB_losePower_3 (by decide) ?_
  refine lv_icmp_ge (tgt := 23) hx hb dB_losePower_5 (by decide) (fun c_1 => ?_) (fun c_1 => ?_)
  · have h12 : z = 12 := by have := (nI_leI (a := 12) (b := z) (by decide) (by omega)).mp c_1; omega
    refine lv_aload_n hx hb dB_losePower_23 rfl (lv_at hl 0 rfl) ?_
    refine lv_iconst (v := 0) hx hb dB_losePower_24 (by decide) ?_
    refine va_put (D := (dC, dI)) (ci := 3) (v := .int 0) (ty := .int) (C := RB) (T := TB) (N := 4) hx hb hts (inC inB) tyB tyB_ok nmB hown hK hP hD hS 0 rfl rfl 3 (by decide) (hq _ wi_117) (fun _ h9 => h9) rfl (by decide +kernel) rfl rfl (Nat.le_of_ble_eq_true rfl) dB_losePower_25 (fun H locs hP hD hS => ?_)
    have hP : va_P (dC, dI) clB (dw h dr db lg fa fr fb ka (dropF (-1) pg z) (dropF 0 pn z) (dropF 0 us z) (dropF 0 di z) bt dk lf wn rd en fl 0) H := hP
    have hD : va_D A (dw h dr db lg fa fr fb ka (dropF (-1) pg z) (dropF 0 pn z) (dropF 0 us z) (dropF 0 di z) bt dk lf wn rd en fl 0) := dw_D hDw
    refine lv_aload_n hx hb dB_losePower_28 rfl (lv_at hl 0 rfl) ?_
    refine va_get (D := (dC, dI)) (ci := 3) (v := .ref dr) (C := RB) (T := TB) (N := 4) hx hb hts (inC inB) hown hK hP 0 rfl rfl 0 (by decide) (hq _ wi_114) (fun _ h9 => h9) rfl dB_losePower_29 ?_
    refine lv_iconst (v := (-1)) hx hb dB_losePower_32 (by decide) ?_
    refine va_putN (D := (dC, dI)) (ci := 0) (v := .int (-1)) (ty := .int) (C := RD) (T := TD) (N := 4) hx hb hts (inC inD) tyD tyD_ok nmD hown hK hP hD hS 1 rfl rfl 1 (by decide) (va_Nw.use rfl (hN _ ns_1)) (fun _ h9 => h9) rfl (by decide +kernel) rfl rfl (Nat.le_of_ble_eq_true rfl) dB_losePower_33 (fun H locs hP hD hS => ?_)
    have hP : va_P (dC, dI) clB (dw h dr db lg fa fr fb ka (dropF (-1) pg z) (dropF 0 pn z) (dropF 0 us z) (dropF 0 di z) bt dk (-1) wn rd en fl 0) H := hP
    have hD : va_D A (dw h dr db lg fa fr fb ka (dropF (-1) pg z) (dropF 0 pn z) (dropF 0 us z) (dropF 0 di z) bt dk (-1) wn rd en fl 0) := dw_D hDw
    exact W.vret hx hb hr (fun t ht hW => ⟨⟨(), rfl, trivial, by show va_P _ _ _ t.heap; rw [ht]; exact (h12 ▸ hP)⟩, hS.F ht⟩) hS.2.2 dB_losePower_36
  · have hz : z < 12 := by have := mt (nI_leI (a := 12) (b := z) (by decide) (by omega)).mpr c_1; omega
    refine lv_aload_n hx hb dB_losePower_8 rfl (lv_at hl 0 rfl) ?_
    refine va_get (D := (dC, dI)) (ci := 3) (v := .ref fa) (C := RB) (T := TB) (N := 4) hx hb hts (inC inB) hown hK hP 0 rfl rfl 2 (by decide) (hq _ wi_116) (fun _ h9 => h9) rfl dB_losePower_9 ?_
    refine lv_iload_n hx hb dB_losePower_12 rfl (lv_at hl 1 rfl) ?_
    refine tk_aald (n := z) (y := fr z) hx hb hK hP 4 1 rfl rfl rfl hz (by decide) rfl dB_losePower_13 ?_
    have hFc := tk_free1 (k := 5 + z) hD hS hA (dw_fr hz)
    refine va_callv (va_runV (As := []) (rest := []) ⟨hx, hb, hml, hown, hts⟩ (c_F_dropPage l dC dI ka _ (fr z) (fb z) ((dropF (-1) pg z) z) ((dropF 0 pn z) z) ((dropF 0 us z) z) ((dropF 0 di z) z)) (cwV 0 hts (tw_V wi_385 wi_386 wi_387 wi_27 wi_388) rfl rfl rfl (by decide +kernel) ⟨Nat.le_of_ble_eq_true rfl, Nat.le_of_ble_eq_true rfl⟩) ⟨fun a U g mk q => ⟨q.1, q.2.1, tk_E.call q.2.2.1, q.2.2.2⟩, va_recv hK hP (ci := 1) (q0 := (5 + z)) rfl (dw_fr hz), fun U hU hW => ⟨rfl, by rw [hU], tk_E.warm hW hE, by rw [hU]; exact (tk_one hP (k := 5 + z) (dw_fr hz)), tk_done⟩⟩ rfl rfl hl.1 rfl (lv_room (Nat.le_of_ble_eq_true rfl)) dB_losePower_14 ⟨Nat.zero_le _, Nat.zero_le _⟩) hS (fun q _ h => hFc q h) hFc (fun u_2 t H1 locs ht hvm hw hB hz1 hk1 hS => ?_)
    have hB : va_P (dC, dI) clB [((fr z), .inr (1, [.ref (fb z), .int (-1), .int 0, .int 0, .int 0]))] H1 := by rw [← ht]; exact hB
    obtain ⟨hP, hD⟩ := tk_join1 (k := 5 + z) hP hD (dw_fr hz) hk1 hB
    generalize H1 = H at hP hS ⊢
    have hP : va_P (dC, dI) clB (dw h dr db lg fa fr fb ka (upd (dropF (-1) pg z) z (-1)) (upd (dropF 0 pn z) z 0) (upd (dropF 0 us z) z 0) (upd (dropF 0 di z) z 0) bt dk lf wn rd en fl hd) H := (by rw [← dw_set_fr hz]; exact hP)
    have hD : va_D A (dw h dr db lg fa fr fb ka (upd (dropF (-1) pg z) z (-1)) (upd (dropF 0 pn z) z 0) (upd (dropF 0 us z) z 0) (upd (dropF 0 di z) z 0) bt dk lf wn rd en fl hd) := dw_D hDw
    refine lv_iinc (v := ((nI z) + 1)) (lv' := [(1, .int ((nI z) + 1)), (0, .ref h)]) hx hb dB_losePower_17 hl (k := 1) rfl rfl (by decide) rfl (fun ls hl => ?_)
    refine lv_goto (tgt := 2) hx hb dB_losePower_20 (by decide) ?_
    exact ih (n - 1) (z + 1) _ _ _ (by omega) ⟨by omega, by omega, (by rw [← dropF_s, ← dropF_s, ← dropF_s, ← dropF_s]; exact hP), (dw_D hDw), hS, lv_sub hl [1, 0] (by rw [← nI_1]; rfl)⟩
end
section
/-! WHAT A THROW NEEDS: words that grow warm by laws of their own, the texts, Throwable's two statics -/
abbrev xIAE : String := "java/lang/IllegalArgumentException"
abbrev xISE : String := "java/lang/IllegalStateException"
abbrev xNSE : String := "java/util/NoSuchElementException"
abbrev xUOE : String := "java/lang/UnsupportedOperationException"
abbrev xUp : List String := ["java/lang/RuntimeException", "java/lang/Exception"]
def xwB : List Cond := [.declares (Bundle.initS "java/lang/RuntimeException"), .declares (Bundle.initS "java/lang/Exception"), .declares (Bundle.initS Bundle.tN), .castable xIAE xIAE, .castable xISE xISE, .castable xNSE xNSE, .castable xUOE xUOE]
theorem xwB_in : ∀ w ∈ xwB, w ∈ lw_tbl := by decide +kernel
theorem xwB_tab : ∀ w ∈ xwB, w.onTables = true := by decide +kernel
theorem xwB_warm {s U : State} (hW : s.WarmedH U.vm) (h : ∀ w ∈ xwB, va_Nw w s) : ∀ w ∈ xwB, va_Nw w U := by
  intro w hw
  have h0 := h w hw
  simp only [xwB, List.mem_cons, List.not_mem_nil, or_false] at hw
  rcases hw with rfl | rfl | rfl | rfl | rfl | rfl | rfl <;> first | exact va_Nw.warmD hW h0 | exact va_Nw.warmC hW h0
/-- the texts: which entry, which words -/
def txB : List (Nat × String) := [(40, "there is no such page"), (58, "all frames have pins"), (66, "the page is torn"), (191, "the power went"), (85, "a frame has the page"), (115, "n is not 1 .. 12"), (131, "n is not 0 .. 999")]
def tk_X (sa : Nat → Nat) (U : State) : Prop := (∀ w ∈ xwB, va_Nw w U) ∧ ∀ (i : Nat) (q : Nat × String), txB[i]? = some q → vk_R RB q.1 q.2 (sa i) U
theorem tk_X.warm {sa : Nat → Nat} {s U : State} (hW : s.WarmedH U.vm) (h : tk_X sa s) : tk_X sa U := ⟨xwB_warm hW h.1, fun i q hq => vk_R.warm hW (h.2 i q hq)⟩
theorem tk_X.call {sa : Nat → Nat} {U : State} (h : tk_X sa U) {g : JFrame} {mk : MethodId} {a : Array Value} : tk_X sa (U.calling g mk a) :=
  ⟨fun w hw => va_Nw.same (u := U) (U := U.calling g mk a) (xwB_tab w hw) rfl (h.1 w hw), fun i q hq => vk_R.same (u := U) (U := U.calling g mk a) rfl (h.2 i q hq)⟩
def tk_Z (A : Nat → Prop) (U : State) (H : Heap) : Prop := vx_Zq Bundle.tN "UNASSIGNED_STACK" Bundle.steD A U H ∧ vx_Zq Bundle.tN "SUPPRESSED_SENTINEL" Bundle.listD A U H
theorem tk_Z.at {A B : Nat → Prop} {s U : State} {H : Heap} {locs : List Loc} (h : tk_Z A s s.heap) (hS : va_S A s.heap H locs) (hU : U.heap = H) (hW : s.WarmedH U.vm) (hAB : ∀ q, B q → A q) : tk_Z B U U.heap := by
  rw [hU]
  exact ⟨vx_Zq.narrow (vx_Zq.moved hW.alike (vx_Zq.kept h.1 hS.2.1)) hAB, vx_Zq.narrow (vx_Zq.moved hW.alike (vx_Zq.kept h.2 hS.2.1)) hAB⟩
theorem tk_Z.call {A : Nat → Prop} {U : State} (h : tk_Z A U U.heap) {g : JFrame} {mk : MethodId} {a : Array Value} : tk_Z A (U.calling g mk a) (U.calling g mk a).heap :=
  ⟨vx_Zq.moved (u := U) (U := U.calling g mk a) (Vm.Alike.refl U.vm) h.1, vx_Zq.moved (u := U) (U := U.calling g mk a) (Vm.Alike.refl U.vm) h.2⟩
/-- the words of a throw of E, its call at the entry ic -/
theorem tk_at {ic : Nat} {E : String} {args : Array Value} {s : State} (hg : ∀ w ∈ (vx_atS RB ic E xUp).filter goodWord, w ∈ lwg) (hb : ∀ w ∈ (vx_atS RB ic E xUp).filter (fun w => !goodWord w), w ∈ xwB) (hq : ∀ w ∈ lwg, w.before args s = true) (hX : ∀ w ∈ xwB, va_Nw w s) : ∀ w ∈ vx_atS RB ic E xUp, w.before args s = true :=
  vx_hat (fun w hw => hq w (hg w hw)) hb (fun w hw => va_Nw.use (xwB_tab w hw) (hX w hw))
theorem xg_UOE : ∀ w ∈ (vx_atS RB 193 xUOE xUp).filter goodWord, w ∈ lwg := by decide +kernel
theorem xb_UOE : ∀ w ∈ (vx_atS RB 193 xUOE xUp).filter (fun w => !goodWord w), w ∈ xwB := by decide +kernel
theorem xo_UOE : ∀ w ∈ Cond.classLink RB 189 xUOE :: Cond.initialized xUOE :: vx_atS RB 193 xUOE xUp, vx_ot w = true := by decide +kernel
theorem xg_IAE : ∀ w ∈ (vx_atS RB 42 xIAE xUp).filter goodWord, w ∈ lwg := by decide +kernel
theorem xb_IAE : ∀ w ∈ (vx_atS RB 42 xIAE xUp).filter (fun w => !goodWord w), w ∈ xwB := by decide +kernel
theorem xo_IAE : ∀ w ∈ Cond.classLink RB 38 xIAE :: Cond.initialized xIAE :: vx_atS RB 42 xIAE xUp, vx_ot w = true := by decide +kernel
theorem xg_ISE : ∀ w ∈ (vx_atS RB 60 xISE xUp).filter goodWord, w ∈ lwg := by decide +kernel
theorem xb_ISE : ∀ w ∈ (vx_atS RB 60 xISE xUp).filter (fun w => !goodWord w), w ∈ xwB := by decide +kernel
theorem xo_ISE : ∀ w ∈ Cond.classLink RB 56 xISE :: Cond.initialized xISE :: vx_atS RB 60 xISE xUp, vx_ot w = true := by decide +kernel
/-- a callee that had the whole world -/
theorem tk_freeW {A0 : Nat → Prop} {ws : va_W} {H0 H : Heap} {locs : List Loc} (hD : va_D A0 ws) (hS : va_S A0 H0 H locs) (hA : ∀ q, H0.size ≤ q → A0 q) : ∀ z, va_A ws H.size z → A0 z :=
  tk_free hD hS hA (fun _ hx => List.getElem?_of_mem hx)
theorem tk_keptP {D : va_G} {cl : List vw_C} {ws : va_W} {H H1 : Heap} (hP : va_P D cl ws H) (h : ∀ q : Nat, q < H.size → H1[q]? = H[q]?) : va_P D cl ws H1 := hP.kept (fun k q hk => h q.1 ((hP k q hk).lt))
theorem tk_keptF {A : Nat → Prop} {s t : State} {H : Heap} {locs : List Loc} (hS : va_S A s.heap H locs) (hz : H.size ≤ t.heap.size) (h : ∀ q : Nat, q < H.size → t.heap[q]? = H[q]?) : va_F A s t := ⟨Nat.le_trans hS.1 hz, fun q h1 h2 => (h q (Nat.lt_of_lt_of_le h1 hS.1)).trans (hS.2.1 q h1 h2)⟩
end
section
/-- the charge behind z sectors -/
def lfA (lf : Int32) : Nat → Int32
  | 0 => lf
  | z + 1 => if lfA lf z = 0 then lfA lf z else if lfA lf z = -1 then lfA lf z else lfA lf z - 1
/-- the disk behind z sectors of page n -/
def wrD (dk g : Nat → Int32) (n : Nat) : Nat → Nat → Int32
  | 0 => dk
  | z + 1 => va_cpy g (wrD dk g n z) (z * 64) (n * 512 + z * 64) 64
theorem fit_psB {f : Nat → Int32} {x : Int32} (h : sb_Fit f) : sb_Fit (psB f x) := sb_fitU (sb_fitU (sb_fitU (sb_fitU h (pk_fb _)) (pk_fb _)) (pk_fb _)) (pk_fb _)
theorem wn_s (wn : Int32) (z : Nat) : wn + nI z + 1 = wn + nI (z + 1) := by rw [← nI_1, Int32.add_assoc]
theorem wn_0 (wn : Int32) : wn + nI 0 = wn := by rw [nI_0, Int32.add_zero]
section DW5
variable {h dr db lg fa : Nat} {fr fb : Nat → Nat} {ka : Nat → ClassId} {pg pn us di : Nat → Int32} {bt : Nat → Nat → Int32} {dk : Nat → Int32} {lf wn rd en fl hd : Int32}
theorem dw_set_fbn {i : Nat} (hi : i < 12) : (dw h dr db lg fa fr fb ka pg pn us di bt dk lf wn rd en fl hd).set (17 + i) (fb i, .inl (ka 0, 512, .inl (bt i))) = dw h dr db lg fa fr fb ka pg pn us di bt dk lf wn rd en fl hd := by
  rw [dw_set_fb hi, va_up_id]
end DW5

set_option maxHeartbeats 4000000 in
set_option maxRecDepth 100000 in
theorem c_B_writePageOf_ok (l : Launch) (dC : Nat → ClassId) (dI : Nat → Nat → Nat) (ka : Nat → ClassId) (sz : Nat) (h dr db lg fa : Nat) (fr fb : Nat → Nat) (pg pn us di : Nat → Int32) (bt : Nat → Nat → Int32) (dk : Nat → Int32) (lf wn rd en fl hd : Int32) (i np : Nat) (hi0 : i < 12) (hpg : pg i = nI np) (hnp : np < 192) (hF : sb_Fit (bt i)) (hok : ∀ z, z < 8 → ¬ lfA lf z = 0) : Met l yB_writePageOf wB_writePageOf ({ frames := 2, cells := 0, slots := 0, locals := 84 }) (va_Pc [.ref h, .ref (fr i)] (fun U => U.heap.size = sz ∧ tk_E dC dI ka U ∧ va_P (dC, dI) clB (dw h dr db lg fa fr fb ka pg pn us di bt dk lf wn rd en fl hd) U.heap ∧ va_D (fun _ => True) (dw h dr db lg fa fr fb ka pg pn us di bt dk lf wn rd en fl hd))) (va_Qv (fun _ : Unit => True) (fun _ t => va_P (dC, dI) clB (dw h dr db lg fa fr fb ka pg pn us (upd di i 0) (va_up bt i (psB (bt i) (tb2 (bt i) 0 + 1))) (wrD dk ((va_up bt i (psB (bt i) (tb2 (bt i) 0 + 1))) i) np 8) (lfA lf 8) (wn + nI 8) rd (if en < (plB (bt i)) then (plB (bt i)) else en) (if en < (plB (bt i)) then fl + 1 else fl) hd) t.heap) (va_A (dw h dr db lg fa fr fb ka pg pn us di bt dk lf wn rd en fl hd) sz)) 0 0 (va_A (dw h dr db lg fa fr fb ka pg pn us di bt dk lf wn rd en fl hd) sz) := by
  refine Met.ofW (cc := cB_writePageOf) (maxL := 3) (ret := none) (by decide) rfl ?_
  intro p e s m args below meth c s₁ B hml hv
  obtain ⟨rfl, hsz, hE, hP, hD0⟩ := hv
  have hx := B.exec
  have hb := B.bytes
  have hr := B.returns
  have hts := atoms_spec (ws := wB_writePageOf) B.pre
  have hq : ∀ w ∈ lwg, w.before _ s = true := fun w h => hts w (List.mem_cons_of_mem _ h)
  have hown : s.vm.findClass RB = some m.cls := findClass_of_methodNamed B.named
  have hlocks := B.notSynchronized
  have hK := hE.1
  have hN := hE.2
  subst hsz
  have hD := hD0.self (sz := s.heap.size)
  generalize hAe : va_A (dw h dr db lg fa fr fb ka pg pn us di bt dk lf wn rd en fl hd) s.heap.size = A at hD ⊢
  have hA : ∀ q : Nat, s.heap.size ≤ q → A q := fun q h => by rw [← hAe]; exact Or.inr h
  have hS : va_S A s.heap s.heap [] := va_S.rf
  have hDw := hD
  have hP : va_P (dC, dI) clB (dw h dr db lg fa fr fb ka pg pn us di bt dk lf wn rd en fl hd) s.heap := hP
  have hl := lv_entry ([.ref h, .ref (fr i)]) (n := 3) (Nat.le_of_ble_eq_true rfl)
  rw [lg_entry_eq]
  generalize (lg_sl ([.ref h, .ref (fr i)]) ++ List.replicate (3 - (lg_sl ([.ref h, .ref (fr i)])).length) Slot.unset).toArray = ls at hl ⊢
  have hl : lv_has ls 3 [(0, .ref h), (1, .ref (fr i))] := hl
  refine lv_aload_n hx hb dB_writePageOf_0 rfl (lv_at hl 0 rfl) ?_
  refine va_get (D := (dC, dI)) (ci := 3) (v := .ref lg) (C := RB) (T := TB) (N := 4) hx hb hts (inC inB) hown hK hP 0 rfl rfl 1 (by decide) (hq _ wi_115) (fun _ h9 => h9) rfl dB_writePageOf_1 ?_
  refine lv_aload_n hx hb dB_writePageOf_4 rfl (lv_at hl 1 rfl) ?_
  refine vp_callSi (va_Run.run (va_runV (As := []) (rest := [.ref lg]) ⟨hx, hb, hml, hown, hts⟩ (c_F_place l dC dI ka (fr i) (fb i) (pg i) (pn i) (us i) (di i) (bt i)) (cwV 0 hts (tw_V wi_157 wi_158 wi_159 wi_27 wi_160) rfl rfl rfl (by decide +kernel) ⟨Nat.le_of_ble_eq_true rfl, Nat.le_of_ble_eq_true rfl⟩) ⟨fun a U g mk q => ⟨q.1, tk_E.call q.2.1, q.2.2⟩, va_recv hK hP (ci := 1) (q0 := (5 + i)) rfl (dw_fr hi0), fun U hU hW => ⟨rfl, tk_E.warm hW hE, by rw [hU]; exact (tk_two hP (k := 5 + i) (k' := 17 + i) (dw_fr hi0) (dw_fb hi0))⟩⟩ rfl rfl hl.1 rfl (lv_room (Nat.le_of_ble_eq_true rfl)) dB_writePageOf_5 ⟨Nat.zero_le _, Nat.zero_le _⟩)) (fun r_1 er_1 => ?_)
  subst er_1
  have hFc := tk_free1 (k := 3) hD hS hA rfl
  refine va_callv (va_runV (As := [.int (plB (bt i))]) (rest := []) ⟨hx, hb, hml, hown, hts⟩ (c_G_reach l dC dI ka _ lg en fl (plB (bt i))) (cwV 1 hts (tw_V wi_361 wi_362 wi_363 wi_26 wi_364) rfl rfl rfl (by decide +kernel) ⟨Nat.le_of_ble_eq_true rfl, Nat.le_of_ble_eq_true rfl⟩) ⟨fun a U g mk q => ⟨q.1, q.2.1, tk_E.call q.2.2.1, q.2.2.2⟩, va_recv hK hP (ci := 2) (q0 := 3) rfl rfl, fun U hU hW => ⟨rfl, by rw [hU], tk_E.warm hW hE, by rw [hU]; exact (tk_one hP (k := 3) rfl), tk_done⟩⟩ rfl rfl hl.1 rfl (lv_room (Nat.le_of_ble_eq_true rfl)) dB_writePageOf_8 ⟨Nat.zero_le _, Nat.zero_le _⟩) hS (fun q _ h => hFc q h) hFc (fun u_2 t H1 locs ht hvm hw hB hz1 hk1 hS => ?_)
  have hB : va_P (dC, dI) clB [(lg, .inr (2, [.int (if en < (plB (bt i)) then (plB (bt i)) else en), .int (if en < (plB (bt i)) then fl + 1 else fl)]))] H1 := by rw [← ht]; exact hB
  obtain ⟨hP, hD⟩ := tk_join1 (k := 3) hP hD rfl hk1 hB
  generalize H1 = H at hP hS ⊢
  have hP : va_P (dC, dI) clB (dw h dr db lg fa fr fb ka pg pn us di bt dk lf wn rd (if en < (plB (bt i)) then (plB (bt i)) else en) (if en < (plB (bt i)) then fl + 1 else fl) hd) H := (show va_P _ _ _ H from hP)
  have hD : va_D A (dw h dr db lg fa fr fb ka pg pn us di bt dk lf wn rd (if en < (plB (bt i)) then (plB (bt i)) else en) (if en < (plB (bt i)) then fl + 1 else fl) hd) := dw_D hDw
  refine lv_aload_n hx hb dB_writePageOf_11 rfl (lv_at hl 1 rfl) ?_
  have hFc := tk_free2 (k := 5 + i) (k' := 17 + i) hD hS hA (dw_fr hi0) (dw_fb hi0)
  refine va_callv (va_runV (As := []) (rest := []) ⟨hx, hb, hml, hown, hts⟩ (c_F_raiseStamps l dC dI ka _ (fr i) (fb i) (pg i) (pn i) (us i) (di i) (bt i) ) (cwV 0 hts (tw_V wi_366 wi_367 wi_368 wi_27 wi_369) rfl rfl rfl (by decide +kernel) ⟨Nat.le_of_ble_eq_true rfl, Nat.le_of_ble_eq_true rfl⟩) ⟨fun a U g mk q => ⟨q.1, q.2.1, tk_E.call q.2.2.1, q.2.2.2⟩, va_recv hK hP (ci := 1) (q0 := (5 + i)) rfl (dw_fr hi0), fun U hU hW => ⟨rfl, by rw [hU], tk_E.warm hW hE, by rw [hU]; exact (tk_two hP (k := 5 + i) (k' := 17 + i) (dw_fr hi0) (dw_fb hi0)), (tk_dtwo hD (k := 5 + i) (k' := 17 + i) (dw_fr hi0) (dw_fb hi0) (by omega))⟩⟩ rfl rfl hl.1 rfl (lv_room (Nat.le_of_ble_eq_true rfl)) dB_writePageOf_12 ⟨Nat.zero_le _, Nat.zero_le _⟩) hS (fun q _ h => hFc q h) hFc (fun u_4 t H1 locs ht hvm hw hB hz1 hk1 hS => ?_)
  have hB : va_P (dC, dI) clB [((fr i), .inr (1, [.ref (fb i), .int (pg i), .int (pn i), .int (us i), .int (di i)])), ((fb i), .inl (ka 0, 512, .inl (psB (bt i) (tb2 (bt i) 0 + 1))))] H1 := by rw [← ht]; exact hB
  obtain ⟨hP, hD⟩ := tk_join2 (k := 5 + i) (k' := 17 + i) hP hD (dw_fr hi0) (dw_fb hi0) (by omega) hk1 hB
  generalize H1 = H at hP hS ⊢
  have hP : va_P (dC, dI) clB (dw h dr db lg fa fr fb ka pg pn us di (va_up bt i (psB (bt i) (tb2 (bt i) 0 + 1))) dk lf wn rd (if en < (plB (bt i)) then (plB (bt i)) else en) (if en < (plB (bt i)) then fl + 1 else fl) hd) H := (by rw [← dw_set_fb hi0, ← dw_set_n hi0]; exact hP)
  have hD : va_D A (dw h dr db lg fa fr fb ka pg pn us di (va_up bt i (psB (bt i) (tb2 (bt i) 0 + 1))) dk lf wn rd (if en < (plB (bt i)) then (plB (bt i)) else en) (if en < (plB (bt i)) then fl + 1 else fl) hd) := dw_D hDw
  refine lv_iconst (v := 0) hx hb dB_writePageOf_15 (by decide) ?_
  refine lv_istore_n (lv' := [(2, .int 0), (0, .ref h), (1, .ref (fr i))]) hx hb dB_writePageOf_16 rfl hl (by decide) rfl (fun ls hl => ?_)
  refine tk_loop 17 (fun (n : Nat) (z : Nat) H locs ls => (z ≤ 8) ∧ (n = 8 - z) ∧ va_P (dC, dI) clB (dw h dr db lg fa fr fb ka pg pn us di (va_up bt i (psB (bt i) (tb2 (bt i) 0 + 1))) (wrD dk ((va_up bt i (psB (bt i) (tb2 (bt i) 0 + 1))) i) np z) (lfA lf z) (wn + nI z) rd (if en < (plB (bt i)) then (plB (bt i)) else en) (if en < (plB (bt i)) then fl + 1 else fl) hd) H ∧ va_D A (dw h dr db lg fa fr fb ka pg pn us di (va_up bt i (psB (bt i) (tb2 (bt i) 0 + 1))) (wrD dk ((va_up bt i (psB (bt i) (tb2 (bt i) 0 + 1))) i) np z) (lfA lf z) (wn + nI z) rd (if en < (plB (bt i)) then (plB (bt i)) else en) (if en < (plB (bt i)) then fl + 1 else fl) hd) ∧ va_S A s.heap H locs ∧ lv_has ls 3 [(0, .ref h), (1, .ref (fr i)), (2, .int (nI z))]) ?_ 8 0 ⟨Nat.zero_le _, rfl, (by rw [wn_0]; exact hP), (dw_D hDw), hS, lv_sub hl [1, 2, 0] rfl⟩
  skip
  intro n z H locs ls hI ih
  obtain ⟨hi, hn, hP, hD, hS, hl⟩ := hI
  refine lv_iload_n hx hb dB_writePageOf_17 rfl (lv_at hl 2 rfl) ?_
  refine lv_bipush (v := 8) hx hb dB_writePageOf_18 (by decide) ?_
  refine lv_icmp_ge (tgt := 62) hx hb dB_writePageOf_20 (by decide) (fun c_6 => ?_) (fun c_6 => ?_)
  · have h8 : z = 8 := by have := (nI_leI (a := 8) (b := z) (by decide) (by omega)).mp c_6; omega
    refine lv_aload_n hx hb dB_writePageOf_62 rfl (lv_at hl 1 rfl) ?_
    refine lv_iconst (v := 0) hx hb dB_writePageOf_63 (by decide) ?_
    refine va_putN (D := (dC, dI)) (ci := 1) (v := .int 0) (ty := .boolean) (C := RF) (T := TF) (N := 5) hx hb hts (inC inF) tyF tyF_ok nmF hown hK hP hD hS (5 + i) (dw_fr hi0) rfl 4 (by decide) (va_Nw.use rfl (hN _ ns_12)) (fun _ h9 => h9) rfl (by decide +kernel) rfl rfl (Nat.le_of_ble_eq_true rfl) dB_writePageOf_64 (fun H locs hP hD hS => ?_)
    have hP : va_P (dC, dI) clB (dw h dr db lg fa fr fb ka pg pn us (upd di i 0) (va_up bt i (psB (bt i) (tb2 (bt i) 0 + 1))) (wrD dk ((va_up bt i (psB (bt i) (tb2 (bt i) 0 + 1))) i) np z) (lfA lf z) (wn + nI z) rd (if en < (plB (bt i)) then (plB (bt i)) else en) (if en < (plB (bt i)) then fl + 1 else fl) hd) H := (by rw [← dw_set_d hi0]; exact hP)
    have hD : va_D A (dw h dr db lg fa fr fb ka pg pn us (upd di i 0) (va_up bt i (psB (bt i) (tb2 (bt i) 0 + 1))) (wrD dk ((va_up bt i (psB (bt i) (tb2 (bt i) 0 + 1))) i) np z) (lfA lf z) (wn + nI z) rd (if en < (plB (bt i)) then (plB (bt i)) else en) (if en < (plB (bt i)) then fl + 1 else fl) hd) := dw_D hDw
    exact W.vret hx hb hr (fun t ht hW => ⟨⟨(), rfl, trivial, by show va_P _ _ _ t.heap; rw [ht]; exact (h8 ▸ hP)⟩, hS.F ht⟩) hS.2.2 dB_writePageOf_67
  · have hz8 : z < 8 := by have := mt (nI_leI (a := 8) (b := z) (by decide) (by omega)).mpr c_6; omega
    refine lv_aload_n hx hb dB_writePageOf_23 rfl (lv_at hl 0 rfl) ?_
    refine va_get (D := (dC, dI)) (ci := 3) (v := .ref dr) (C := RB) (T := TB) (N := 4) hx hb hts (inC inB) hown hK hP 0 rfl rfl 0 (by decide) (hq _ wi_114) (fun _ h9 => h9) rfl dB_writePageOf_24 ?_
    refine lv_aload_n hx hb dB_writePageOf_27 rfl (lv_at hl 1 rfl) ?_
    refine va_getN (D := (dC, dI)) (ci := 1) (v := .int (pg i)) (C := RF) (T := TF) (N := 5) hx hb hts (inC inF) hown hK hP (5 + i) (dw_fr hi0) rfl 1 (by decide) (va_Nw.use rfl (hN _ ns_9)) (fun _ h9 => h9) rfl dB_writePageOf_28 ?_
    refine lv_iload_n hx hb dB_writePageOf_31 rfl (lv_at hl 2 rfl) ?_
    refine lv_aload_n hx hb dB_writePageOf_32 rfl (lv_at hl 1 rfl) ?_
    refine va_getN (D := (dC, dI)) (ci := 1) (v := .ref (fb i)) (C := RF) (T := TF) (N := 5) hx hb hts (inC inF) hown hK hP (5 + i) (dw_fr hi0) rfl 0 (by decide) (va_Nw.use rfl (hN _ ns_8)) (fun _ h9 => h9) rfl dB_writePageOf_33 ?_
    have hFc := tk_free3 (k := 1) (k' := 2) (k2 := 17 + i) hD hS hA rfl rfl (dw_fb hi0)
    refine va_calli (va_runV (As := [.int (pg i), .int (nI z), .ref (fb i)]) (rest := []) ⟨hx, hb, hml, hown, hts⟩ (c_D_writeSector l dC dI ka _ dr db (fb i) (lfA lf z) (wn + nI z) rd (wrD dk ((va_up bt i (psB (bt i) (tb2 (bt i) 0 + 1))) i) np z) ((va_up bt i (psB (bt i) (tb2 (bt i) 0 + 1))) i) (pg i) (nI z) np z hpg hnp rfl hz8 (by rw [va_up_self]; exact fit_psB hF)) (cwV 3 hts (tw_V wi_374 wi_375 wi_376 wi_25 wi_377) rfl rfl rfl (by decide +kernel) ⟨Nat.le_of_ble_eq_true rfl, Nat.le_of_ble_eq_true rfl⟩) ⟨fun a U g mk q => ⟨q.1, q.2.1, tk_E.call q.2.2.1, q.2.2.2⟩, va_recv hK hP (ci := 0) (q0 := 1) rfl rfl, fun U hU hW => ⟨rfl, by rw [hU], tk_E.warm hW hE, by rw [hU]; exact (tk_three hP (k := 1) (k' := 2) (k2 := 17 + i) rfl rfl (dw_fb hi0)), (tk_dthree hD (k := 1) (k' := 2) (k2 := 17 + i) rfl rfl (dw_fb hi0) (by omega) (by omega) (by omega))⟩⟩ rfl rfl hl.1 rfl (lv_room (Nat.le_of_ble_eq_true rfl)) dB_writePageOf_36 ⟨Nat.zero_le _, Nat.zero_le _⟩) hS (fun q _ h => hFc q h) hFc (fun r_8 u_7 t H1 locs ht hvm hw hB hz1 hk1 hS => ?_)
    have hB : va_P (dC, dI) clB [(dr, .inr (0, [.ref db, .int (if (lfA lf z) = 0 then (lfA lf z) else if (lfA lf z) = -1 then (lfA lf z) else (lfA lf z) - 1), .int (if (lfA lf z) = 0 then (wn + nI z) else (wn + nI z) + 1), .int rd])), (db, .inl (ka 0, 98304, .inl (if (lfA lf z) = 0 then (wrD dk ((va_up bt i (psB (bt i) (tb2 (bt i) 0 + 1))) i) np z) else va_cpy ((va_up bt i (psB (bt i) (tb2 (bt i) 0 + 1))) i) (wrD dk ((va_up bt i (psB (bt i) (tb2 (bt i) 0 + 1))) i) np z) (z * 64) (np * 512 + z * 64) 64))), ((fb i), .inl (ka 0, 512, .inl ((va_up bt i (psB (bt i) (tb2 (bt i) 0 + 1))) i)))] H1 := by rw [← ht]; exact hB
    obtain ⟨hP, hD⟩ := tk_join3 (k := 1) (k' := 2) (k2 := 17 + i) hP hD rfl rfl (dw_fb hi0) (by omega) (by omega) (by omega) hk1 hB
    generalize H1 = H at hP hS ⊢
    have hP : va_P (dC, dI) clB (dw h dr db lg fa fr fb ka pg pn us di (va_up bt i (psB (bt i) (tb2 (bt i) 0 + 1))) (if (lfA lf z) = 0 then (wrD dk ((va_up bt i (psB (bt i) (tb2 (bt i) 0 + 1))) i) np z) else va_cpy ((va_up bt i (psB (bt i) (tb2 (bt i) 0 + 1))) i) (wrD dk ((va_up bt i (psB (bt i) (tb2 (bt i) 0 + 1))) i) np z) (z * 64) (np * 512 + z * 64) 64) (if (lfA lf z) = 0 then (lfA lf z) else if (lfA lf z) = -1 then (lfA lf z) else (lfA lf z) - 1) (if (lfA lf z) = 0 then (wn + nI z) else (wn + nI z) + 1) rd (if en < (plB (bt i)) then (plB (bt i)) else en) (if en < (plB (bt i)) then fl + 1 else fl) hd) H := (by rw [← dw_set_fbn hi0]; exact hP)
    have hD : va_D A (dw h dr db lg fa fr fb ka pg pn us di (va_up bt i (psB (bt i) (tb2 (bt i) 0 + 1))) (if (lfA lf z) = 0 then (wrD dk ((va_up bt i (psB (bt i) (tb2 (bt i) 0 + 1))) i) np z) else va_cpy ((va_up bt i (psB (bt i) (tb2 (bt i) 0 + 1))) i) (wrD dk ((va_up bt i (psB (bt i) (tb2 (bt i) 0 + 1))) i) np z) (z * 64) (np * 512 + z * 64) 64) (if (lfA lf z) = 0 then (lfA lf z) else if (lfA lf z) = -1 then (lfA lf z) else (lfA lf z) - 1) (if (lfA lf z) = 0 then (wn + nI z) else (wn + nI z) + 1) rd (if en < (plB (bt i)) then (plB (bt i)) else en) (if en < (plB (bt i)) then fl + 1 else fl) hd) := dw_D hDw
    replace hw := hw.trans (if_neg (hok z hz8))
    subst hw
    refine lv_if_ne (tgt := 56) hx hb dB_writePageOf_39 (by decide) (fun c_9 => ?_) (fun c_9 => ?_)
    · refine lv_iinc (v := ((nI z) + 1)) (lv' := [(2, .int ((nI z) + 1)), (0, .ref h), (1, .ref (fr i))]) hx hb dB_writePageOf_56 hl (k := 2) rfl rfl (by decide) rfl (fun ls hl => ?_)
      refine lv_goto (tgt := 17) hx hb dB_writePageOf_59 (by decide) ?_
      have e1 : (if (lfA lf z) = 0 then (wn + nI z) else (wn + nI z) + 1) = wn + nI (z + 1) := by rw [if_neg (hok z hz8), wn_s]
      have e2 : (if (lfA lf z) = 0 then (wrD dk ((va_up bt i (psB (bt i) (tb2 (bt i) 0 + 1))) i) np z) else va_cpy ((va_up bt i (psB (bt i) (tb2 (bt i) 0 + 1))) i) (wrD dk ((va_up bt i (psB (bt i) (tb2 (bt i) 0 + 1))) i) np z) (z * 64) (np * 512 + z * 64) 64) = wrD dk ((va_up bt i (psB (bt i) (tb2 (bt i) 0 + 1))) i) np (z + 1) := if_neg (hok z hz8)
      rw [e1, e2] at hP
      exact ih (n - 1) (z + 1) _ _ _ (by omega) ⟨by omega, by omega, hP, (dw_D hDw), hS, lv_sub hl [1, 2, 0] (by rw [← nI_1]; rfl)⟩
    · exact absurd c_9 (by decide)
end
section
set_option maxHeartbeats 4000000 in
set_option maxRecDepth 100000 in
theorem c_B_writePageOf_cut (l : Launch) (hst : l.stackTraces = false) (dC : Nat → ClassId) (dI : Nat → Nat → Nat) (ka : Nat → ClassId) (sa : Nat → Nat) (sz : Nat) (h dr db lg fa : Nat) (fr fb : Nat → Nat) (pg pn us di : Nat → Int32) (bt : Nat → Nat → Int32) (dk : Nat → Int32) (lf wn rd en fl hd : Int32) (i np mm : Nat) (hi0 : i < 12) (hpg : pg i = nI np) (hnp : np < 192) (hF : sb_Fit (bt i)) (hm8 : mm < 8) (hnz : ∀ z, z < mm → ¬ lfA lf z = 0) (h0 : lfA lf mm = 0) : vx_Met l yB_writePageOf wB_writePageOf ({ frames := 6, cells := 1, slots := 6, locals := 84 }) (va_Pc [.ref h, .ref (fr i)] (fun U => U.heap.size = sz ∧ tk_E dC dI ka U ∧ tk_X sa U ∧ tk_Z (va_A (dw h dr db lg fa fr fb ka pg pn us di bt dk lf wn rd en fl hd) sz) U U.heap ∧ va_P (dC, dI) clB (dw h dr db lg fa fr fb ka pg pn us di bt dk lf wn rd en fl hd) U.heap ∧ va_D (fun _ => True) (dw h dr db lg fa fr fb ka pg pn us di bt dk lf wn rd en fl hd))) (va_Qv (fun _ : Unit => False) (fun _ _ => True) (va_A (dw h dr db lg fa fr fb ka pg pn us di bt dk lf wn rd en fl hd) sz)) (vx_X (fun _ : Unit => True) (fun E _ t => E = xUOE ∧ va_P (dC, dI) clB (dw h dr db lg fa fr fb ka (dropF (-1) pg 12) (dropF 0 pn 12) (dropF 0 us 12) (dropF 0 di 12) (va_up bt i (psB (bt i) (tb2 (bt i) 0 + 1))) (wrD dk ((va_up bt i (psB (bt i) (tb2 (bt i) 0 + 1))) i) np mm) (-1) (wn + nI mm) rd (if en < (plB (bt i)) then (plB (bt i)) else en) (if en < (plB (bt i)) then fl + 1 else fl) 0) t.heap) (va_A (dw h dr db lg fa fr fb ka pg pn us di bt dk lf wn rd en fl hd) sz)) 1 6 (va_A (dw h dr db lg fa fr fb ka pg pn us di bt dk lf wn rd en fl hd) sz) := by
  refine vx_ofW (cc := cB_writePageOf) (maxL := 3) (ret := none) (by decide) rfl ?_
  intro p e s m args below meth c s₁ B hml hT hv
  obtain ⟨rfl, hsz, hE, hXx, hZz, hP, hD0⟩ := hv
  have hx := B.exec
  have hb := B.bytes
  have hr := B.returns
  have hts := atoms_spec (ws := wB_writePageOf) B.pre
  have hq : ∀ w ∈ lwg, w.before _ s = true := fun w h => hts w (List.mem_cons_of_mem _ h)
  have hown : s.vm.findClass RB = some m.cls := findClass_of_methodNamed B.named
  have hlocks := B.notSynchronized
  have hK := hE.1
  have hN := hE.2
  subst hsz
  have hD := hD0.self (sz := s.heap.size)
  generalize hAe : va_A (dw h dr db lg fa fr fb ka pg pn us di bt dk lf wn rd en fl hd) s.heap.size = A at hD hZz ⊢
  have hA : ∀ q : Nat, s.heap.size ≤ q → A q := fun q h => by rw [← hAe]; exact Or.inr h
  have hS : va_S A s.heap s.heap [] := va_S.rf
  have hDw := hD
  have hP : va_P (dC, dI) clB (dw h dr db lg fa fr fb ka pg pn us di bt dk lf wn rd en fl hd) s.heap := hP
  have hl := lv_entry ([.ref h, .ref (fr i)]) (n := 3) (Nat.le_of_ble_eq_true rfl)
  rw [lg_entry_eq]
  generalize (lg_sl ([.ref h, .ref (fr i)]) ++ List.replicate (3 - (lg_sl ([.ref h, .ref (fr i)])).length) Slot.unset).toArray = ls at hl ⊢
  have hl : lv_has ls 3 [(0, .ref h), (1, .ref (fr i))] := hl
  refine lv_aload_n hx hb dB_writePageOf_0 rfl (lv_at hl 0 rfl) ?_
  refine va_get (D := (dC, dI)) (ci := 3) (v := .ref lg) (C := RB) (T := TB) (N := 4) hx hb hts (inC inB) hown hK hP 0 rfl rfl 1 (by decide) (hq _ wi_115) (fun _ h9 => h9) rfl dB_writePageOf_1 ?_
  refine lv_aload_n hx hb dB_writePageOf_4 rfl (lv_at hl 1 rfl) ?_
  refine vp_callSi (va_Run.run (va_runV (As := []) (rest := [.ref lg]) ⟨hx, hb, hml, hown, hts⟩ (c_F_place l dC dI ka (fr i) (fb i) (pg i) (pn i) (us i) (di i) (bt i)) (cwV 0 hts (tw_V wi_157 wi_158 wi_159 wi_27 wi_160) rfl rfl rfl (by decide +kernel) ⟨Nat.le_of_ble_eq_true rfl, Nat.le_of_ble_eq_true rfl⟩) ⟨fun a U g mk q => ⟨q.1, tk_E.call q.2.1, q.2.2⟩, va_recv hK hP (ci := 1) (q0 := (5 + i)) rfl (dw_fr hi0), fun U hU hW => ⟨rfl, tk_E.warm hW hE, by rw [hU]; exact (tk_two hP (k := 5 + i) (k' := 17 + i) (dw_fr hi0) (dw_fb hi0))⟩⟩ rfl rfl hl.1 rfl (lv_room (Nat.le_of_ble_eq_true rfl)) dB_writePageOf_5 ⟨Nat.zero_le _, Nat.zero_le _⟩)) (fun r_1 er_1 => ?_)
  subst er_1
  have hFc := tk_free1 (k := 3) hD hS hA rfl
  refine va_callv (va_runV (As := [.int (plB (bt i))]) (rest := []) ⟨hx, hb, hml, hown, hts⟩ (c_G_reach l dC dI ka _ lg en fl (plB (bt i))) (cwV 1 hts (tw_V wi_361 wi_362 wi_363 wi_26 wi_364) rfl rfl rfl (by decide +kernel) ⟨Nat.le_of_ble_eq_true rfl, Nat.le_of_ble_eq_true rfl⟩) ⟨fun a U g mk q => ⟨q.1, q.2.1, tk_E.call q.2.2.1, q.2.2.2⟩, va_recv hK hP (ci := 2) (q0 := 3) rfl rfl, fun U hU hW => ⟨rfl, by rw [hU], tk_E.warm hW hE, by rw [hU]; exact (tk_one hP (k := 3) rfl), tk_done⟩⟩ rfl rfl hl.1 rfl (lv_room (Nat.le_of_ble_eq_true rfl)) dB_writePageOf_8 ⟨Nat.zero_le _, Nat.zero_le _⟩) hS (fun q _ h => hFc q h) hFc (fun u_2 t H1 locs ht hvm hw hB hz1 hk1 hS => ?_)
  have hB : va_P (dC, dI) clB [(lg, .inr (2, [.int (if en < (plB (bt i)) then (plB (bt i)) else en), .int (if en < (plB (bt i)) then fl + 1 else fl)]))] H1 := by rw [← ht]; exact hB
  obtain ⟨hP, hD⟩ := tk_join1 (k := 3) hP hD rfl hk1 hB
  generalize H1 = H at hP hS ⊢
  have hP : va_P (dC, dI) clB (dw h dr db lg fa fr fb ka pg pn us di bt dk lf wn rd (if en < (plB (bt i)) then (plB (bt i)) else en) (if en < (plB (bt i)) then fl + 1 else fl) hd) H := (show va_P _ _ _ H from hP)
  have hD : va_D A (dw h dr db lg fa fr fb ka pg pn us di bt dk lf wn rd (if en < (plB (bt i)) then (plB (bt i)) else en) (if en < (plB (bt i)) then fl + 1 else fl) hd) := dw_D hDw
  refine lv_aload_n hx hb dB_writePageOf_11 rfl (lv_at hl 1 rfl) ?_
  have hFc := tk_free2 (k := 5 + i) (k' := 17 + i) hD hS hA (dw_fr hi0) (dw_fb hi0)
  refine va_callv (va_runV (As := []) (rest := []) ⟨hx, hb, hml, hown, hts⟩ (c_F_raiseStamps l dC dI ka _ (fr i) (fb i) (pg i) (pn i) (us i) (di i) (bt i) ) (cwV 0 hts (tw_V wi_366 wi_367 wi_368 wi_27 wi_369) rfl rfl rfl (by decide +kernel) ⟨Nat.le_of_ble_eq_true rfl, Nat.le_of_ble_eq_true rfl⟩) ⟨fun a U g mk q => ⟨q.1, q.2.1, tk_E.call q.2.2.1, q.2.2.2⟩, va_recv hK hP (ci := 1) (q0 := (5 + i)) rfl (dw_fr hi0), fun U hU hW => ⟨rfl, by rw [hU], tk_E.warm hW hE, by rw [hU]; exact (tk_two hP (k := 5 + i) (k' := 17 + i) (dw_fr hi0) (dw_fb hi0)), (tk_dtwo hD (k := 5 + i) (k' := 17 + i) (dw_fr hi0) (dw_fb hi0) (by omega))⟩⟩ rfl rfl hl.1 rfl (lv_room (Nat.le_of_ble_eq_true rfl)) dB_writePageOf_12 ⟨Nat.zero_le _, Nat.zero_le _⟩) hS (fun q _ h => hFc q h) hFc (fun u_4 t H1 locs ht hvm hw hB hz1 hk1 hS => ?_)
  have hB : va_P (dC, dI) clB [((fr i), .inr (1, [.ref (fb i), .int (pg i), .int (pn i), .int (us i), .int (di i)])), ((fb i), .inl (ka 0, 512, .inl (psB (bt i) (tb2 (bt i) 0 + 1))))] H1 := by rw [← ht]; exact hB
  obtain ⟨hP, hD⟩ := tk_join2 (k := 5 + i) (k' := 17 + i) hP hD (dw_fr hi0) (dw_fb hi0) (by omega) hk1 hB
  generalize H1 = H at hP hS ⊢
  have hP : va_P (dC, dI) clB (dw h dr db lg fa fr fb ka pg pn us di (va_up bt i (psB (bt i) (tb2 (bt i) 0 + 1))) dk lf wn rd (if en < (plB (bt i)) then (plB (bt i)) else en) (if en < (plB (bt i)) then fl + 1 else fl) hd) H := (by rw [← dw_set_fb hi0, ← dw_set_n hi0]; exact hP)
  have hD : va_D A (dw h dr db lg fa fr fb ka pg pn us di (va_up bt i (psB (bt i) (tb2 (bt i) 0 + 1))) dk lf wn rd (if en < (plB (bt i)) then (plB (bt i)) else en) (if en < (plB (bt i)) then fl + 1 else fl) hd) := dw_D hDw
  refine lv_iconst (v := 0) hx hb dB_writePageOf_15 (by decide) ?_
  refine lv_istore_n (lv' := [(2, .int 0), (0, .ref h), (1, .ref (fr i))]) hx hb dB_writePageOf_16 rfl hl (by decide) rfl (fun ls hl => ?_)
  refine tk_loop 17 (fun (n : Nat) (z : Nat) H locs ls => (z ≤ mm) ∧ (n = mm - z) ∧ va_P (dC, dI) clB (dw h dr db lg fa fr fb ka pg pn us di (va_up bt i (psB (bt i) (tb2 (bt i) 0 + 1))) (wrD dk ((va_up bt i (psB (bt i) (tb2 (bt i) 0 + 1))) i) np z) (lfA lf z) (wn + nI z) rd (if en < (plB (bt i)) then (plB (bt i)) else en) (if en < (plB (bt i)) then fl + 1 else fl) hd) H ∧ va_D A (dw h dr db lg fa fr fb ka pg pn us di (va_up bt i (psB (bt i) (tb2 (bt i) 0 + 1))) (wrD dk ((va_up bt i (psB (bt i) (tb2 (bt i) 0 + 1))) i) np z) (lfA lf z) (wn + nI z) rd (if en < (plB (bt i)) then (plB (bt i)) else en) (if en < (plB (bt i)) then fl + 1 else fl) hd) ∧ va_S A s.heap H locs ∧ lv_has ls 3 [(0, .ref h), (1, .ref (fr i)), (2, .int (nI z))]) ?_ mm 0 ⟨Nat.zero_le _, rfl, (by rw [wn_0]; exact hP), (dw_D hDw), hS, lv_sub hl [1, 2, 0] rfl⟩
  skip
  intro n z H locs ls hI ih
  obtain ⟨hi, hn, hP, hD, hS, hl⟩ := hI
  refine lv_iload_n hx hb dB_writePageOf_17 rfl (lv_at hl 2 rfl) ?_
  refine lv_bipush (v := 8) hx hb dB_writePageOf_18 (by decide) ?_
  refine lv_icmp_ge (tgt := 62) hx hb dB_writePageOf_20 (by decide) (fun c_6 => ?_) (fun c_6 => ?_)
  · exact absurd ((nI_leI (a := 8) (b := z) (by decide) (by omega)).mp c_6) (by omega)
  · rcases Nat.lt_or_ge z mm with hzm | hzm
    · have hz8 : z < 8 := by omega
      refine lv_aload_n hx hb dB_writePageOf_23 rfl (lv_at hl 0 rfl) ?_
      refine va_get (D := (dC, dI)) (ci := 3) (v := .ref dr) (C := RB) (T := TB) (N := 4) hx hb hts (inC inB) hown hK hP 0 rfl rfl 0 (by decide) (hq _ wi_114) (fun _ h9 => h9) rfl dB_writePageOf_24 ?_
      refine lv_aload_n hx hb dB_writePageOf_27 rfl (lv_at hl 1 rfl) ?_
      refine va_getN (D := (dC, dI)) (ci := 1) (v := .int (pg i)) (C := RF) (T := TF) (N := 5) hx hb hts (inC inF) hown hK hP (5 + i) (dw_fr hi0) rfl 1 (by decide) (va_Nw.use rfl (hN _ ns_9)) (fun _ h9 => h9) rfl dB_writePageOf_28 ?_
      refine lv_iload_n hx hb dB_writePageOf_31 rfl (lv_at hl 2 rfl) ?_
      refine lv_aload_n hx hb dB_writePageOf_32 rfl (lv_at hl 1 rfl) ?_
      refine va_getN (D := (dC, dI)) (ci := 1) (v := .ref (fb i)) (C := RF) (T := TF) (N := 5) hx hb hts (inC inF) hown hK hP (5 + i) (dw_fr hi0) rfl 0 (by decide) (va_Nw.use rfl (hN _ ns_8)) (fun _ h9 => h9) rfl dB_writePageOf_33 ?_
      have hFc := tk_free3 (k := 1) (k' := 2) (k2 := 17 + i) hD hS hA rfl rfl (dw_fb hi0)
      refine va_calli (va_runV (As := [.int (pg i), .int (nI z), .ref (fb i)]) (rest := []) ⟨hx, hb, hml, hown, hts⟩ (c_D_writeSector l dC dI ka _ dr db (fb i) (lfA lf z) (wn + nI z) rd (wrD dk ((va_up bt i (psB (bt i) (tb2 (bt i) 0 + 1))) i) np z) ((va_up bt i (psB (bt i) (tb2 (bt i) 0 + 1))) i) (pg i) (nI z) np z hpg hnp rfl hz8 (by rw [va_up_self]; exact fit_psB hF)) (cwV 3 hts (tw_V wi_374 wi_375 wi_376 wi_25 wi_377) rfl rfl rfl (by decide +kernel) ⟨Nat.le_of_ble_eq_true rfl, Nat.le_of_ble_eq_true rfl⟩) ⟨fun a U g mk q => ⟨q.1, q.2.1, tk_E.call q.2.2.1, q.2.2.2⟩, va_recv hK hP (ci := 0) (q0 := 1) rfl rfl, fun U hU hW => ⟨rfl, by rw [hU], tk_E.warm hW hE, by rw [hU]; exact (tk_three hP (k := 1) (k' := 2) (k2 := 17 + i) rfl rfl (dw_fb hi0)), (tk_dthree hD (k := 1) (k' := 2) (k2 := 17 + i) rfl rfl (dw_fb hi0) (by omega) (by omega) (by omega))⟩⟩ rfl rfl hl.1 rfl (lv_room (Nat.le_of_ble_eq_true rfl)) dB_writePageOf_36 ⟨Nat.zero_le _, Nat.zero_le _⟩) hS (fun q _ h => hFc q h) hFc (fun r_8 u_7 t H1 locs ht hvm hw hB hz1 hk1 hS => ?_)
      have hB : va_P (dC, dI) clB [(dr, .inr (0, [.ref db, .int (if (lfA lf z) = 0 then (lfA lf z) else if (lfA lf z) = -1 then (lfA lf z) else (lfA lf z) - 1), .int (if (lfA lf z) = 0 then (wn + nI z) else (wn + nI z) + 1), .int rd])), (db, .inl (ka 0, 98304, .inl (if (lfA lf z) = 0 then (wrD dk ((va_up bt i (psB (bt i) (tb2 (bt i) 0 + 1))) i) np z) else va_cpy ((va_up bt i (psB (bt i) (tb2 (bt i) 0 + 1))) i) (wrD dk ((va_up bt i (psB (bt i) (tb2 (bt i) 0 + 1))) i) np z) (z * 64) (np * 512 + z * 64) 64))), ((fb i), .inl (ka 0, 512, .inl ((va_up bt i (psB (bt i) (tb2 (bt i) 0 + 1))) i)))] H1 := by rw [← ht]; exact hB
      obtain ⟨hP, hD⟩ := tk_join3 (k := 1) (k' := 2) (k2 := 17 + i) hP hD rfl rfl (dw_fb hi0) (by omega) (by omega) (by omega) hk1 hB
      generalize H1 = H at hP hS ⊢
      have hP : va_P (dC, dI) clB (dw h dr db lg fa fr fb ka pg pn us di (va_up bt i (psB (bt i) (tb2 (bt i) 0 + 1))) (if (lfA lf z) = 0 then (wrD dk ((va_up bt i (psB (bt i) (tb2 (bt i) 0 + 1))) i) np z) else va_cpy ((va_up bt i (psB (bt i) (tb2 (bt i) 0 + 1))) i) (wrD dk ((va_up bt i (psB (bt i) (tb2 (bt i) 0 + 1))) i) np z) (z * 64) (np * 512 + z * 64) 64) (if (lfA lf z) = 0 then (lfA lf z) else if (lfA lf z) = -1 then (lfA lf z) else (lfA lf z) - 1) (if (lfA lf z) = 0 then (wn + nI z) else (wn + nI z) + 1) rd (if en < (plB (bt i)) then (plB (bt i)) else en) (if en < (plB (bt i)) then fl + 1 else fl) hd) H := (by rw [← dw_set_fbn hi0]; exact hP)
      have hD : va_D A (dw h dr db lg fa fr fb ka pg pn us di (va_up bt i (psB (bt i) (tb2 (bt i) 0 + 1))) (if (lfA lf z) = 0 then (wrD dk ((va_up bt i (psB (bt i) (tb2 (bt i) 0 + 1))) i) np z) else va_cpy ((va_up bt i (psB (bt i) (tb2 (bt i) 0 + 1))) i) (wrD dk ((va_up bt i (psB (bt i) (tb2 (bt i) 0 + 1))) i) np z) (z * 64) (np * 512 + z * 64) 64) (if (lfA lf z) = 0 then (lfA lf z) else if (lfA lf z) = -1 then (lfA lf z) else (lfA lf z) - 1) (if (lfA lf z) = 0 then (wn + nI z) else (wn + nI z) + 1) rd (if en < (plB (bt i)) then (plB (bt i)) else en) (if en < (plB (bt i)) then fl + 1 else fl) hd) := dw_D hDw
      replace hw := hw.trans (if_neg (hnz z hzm))
      subst hw
      refine lv_if_ne (tgt := 56) hx hb dB_writePageOf_39 (by decide) (fun c_9 => ?_) (fun c_9 => ?_)
      · refine lv_iinc (v := ((nI z) + 1)) (lv' := [(2, .int ((nI z) + 1)), (0, .ref h), (1, .ref (fr i))]) hx hb dB_writePageOf_56 hl (k := 2) rfl rfl (by decide) rfl (fun ls hl => ?_)
        refine lv_goto (tgt := 17) hx hb dB_writePageOf_59 (by decide) ?_
        have e1 : (if (lfA lf z) = 0 then (wn + nI z) else (wn + nI z) + 1) = wn + nI (z + 1) := by rw [if_neg (hnz z hzm), wn_s]
        have e2 : (if (lfA lf z) = 0 then (wrD dk ((va_up bt i (psB (bt i) (tb2 (bt i) 0 + 1))) i) np z) else va_cpy ((va_up bt i (psB (bt i) (tb2 (bt i) 0 + 1))) i) (wrD dk ((va_up bt i (psB (bt i) (tb2 (bt i) 0 + 1))) i) np z) (z * 64) (np * 512 + z * 64) 64) = wrD dk ((va_up bt i (psB (bt i) (tb2 (bt i) 0 + 1))) i) np (z + 1) := if_neg (hnz z hzm)
        rw [e1, e2] at hP
        exact ih (n - 1) (z + 1) _ _ _ (by omega) ⟨by omega, by omega, hP, (dw_D hDw), hS, lv_sub hl [1, 2, 0] (by rw [← nI_1]; rfl)⟩
      · exact absurd c_9 (by decide)
    · have hz8 : z < 8 := by omega
      have ez : z = mm := by omega
      have h0z : lfA lf z = 0 := by rw [ez]; exact h0
      refine lv_aload_n hx hb dB_writePageOf_23 rfl (lv_at hl 0 rfl) ?_
      refine va_get (D := (dC, dI)) (ci := 3) (v := .ref dr) (C := RB) (T := TB) (N := 4) hx hb hts (inC inB) hown hK hP 0 rfl rfl 0 (by decide) (hq _ wi_114) (fun _ h9 => h9) rfl dB_writePageOf_24 ?_
      refine lv_aload_n hx hb dB_writePageOf_27 rfl (lv_at hl 1 rfl) ?_
      refine va_getN (D := (dC, dI)) (ci := 1) (v := .int (pg i)) (C := RF) (T := TF) (N := 5) hx hb hts (inC inF) hown hK hP (5 + i) (dw_fr hi0) rfl 1 (by decide) (va_Nw.use rfl (hN _ ns_9)) (fun _ h9 => h9) rfl dB_writePageOf_28 ?_
      refine lv_iload_n hx hb dB_writePageOf_31 rfl (lv_at hl 2 rfl) ?_
      refine lv_aload_n hx hb dB_writePageOf_32 rfl (lv_at hl 1 rfl) ?_
      refine va_getN (D := (dC, dI)) (ci := 1) (v := .ref (fb i)) (C := RF) (T := TF) (N := 5) hx hb hts (inC inF) hown hK hP (5 + i) (dw_fr hi0) rfl 0 (by decide) (va_Nw.use rfl (hN _ ns_8)) (fun _ h9 => h9) rfl dB_writePageOf_33 ?_
      have hFc := tk_free3 (k := 1) (k' := 2) (k2 := 17 + i) hD hS hA rfl rfl (dw_fb hi0)
      refine va_calli (va_runV (As := [.int (pg i), .int (nI z), .ref (fb i)]) (rest := []) ⟨hx, hb, hml, hown, hts⟩ (c_D_writeSector l dC dI ka _ dr db (fb i) (lfA lf z) (wn + nI z) rd (wrD dk ((va_up bt i (psB (bt i) (tb2 (bt i) 0 + 1))) i) np z) ((va_up bt i (psB (bt i) (tb2 (bt i) 0 + 1))) i) (pg i) (nI z) np z hpg hnp rfl hz8 (by rw [va_up_self]; exact fit_psB hF)) (cwV 3 hts (tw_V wi_374 wi_375 wi_376 wi_25 wi_377) rfl rfl rfl (by decide +kernel) ⟨Nat.le_of_ble_eq_true rfl, Nat.le_of_ble_eq_true rfl⟩) ⟨fun a U g mk q => ⟨q.1, q.2.1, tk_E.call q.2.2.1, q.2.2.2⟩, va_recv hK hP (ci := 0) (q0 := 1) rfl rfl, fun U hU hW => ⟨rfl, by rw [hU], tk_E.warm hW hE, by rw [hU]; exact (tk_three hP (k := 1) (k' := 2) (k2 := 17 + i) rfl rfl (dw_fb hi0)), (tk_dthree hD (k := 1) (k' := 2) (k2 := 17 + i) rfl rfl (dw_fb hi0) (by omega) (by omega) (by omega))⟩⟩ rfl rfl hl.1 rfl (lv_room (Nat.le_of_ble_eq_true rfl)) dB_writePageOf_36 ⟨Nat.zero_le _, Nat.zero_le _⟩) hS (fun q _ h => hFc q h) hFc (fun r_11 u_10 t H1 locs ht hvm hw hB hz1 hk1 hS => ?_)
      have hB : va_P (dC, dI) clB [(dr, .inr (0, [.ref db, .int (if (lfA lf z) = 0 then (lfA lf z) else if (lfA lf z) = -1 then (lfA lf z) else (lfA lf z) - 1), .int (if (lfA lf z) = 0 then (wn + nI z) else (wn + nI z) + 1), .int rd])), (db, .inl (ka 0, 98304, .inl (if (lfA lf z) = 0 then (wrD dk ((va_up bt i (psB (bt i) (tb2 (bt i) 0 + 1))) i) np z) else va_cpy ((va_up bt i (psB (bt i) (tb2 (bt i) 0 + 1))) i) (wrD dk ((va_up bt i (psB (bt i) (tb2 (bt i) 0 + 1))) i) np z) (z * 64) (np * 512 + z * 64) 64))), ((fb i), .inl (ka 0, 512, .inl ((va_up bt i (psB (bt i) (tb2 (bt i) 0 + 1))) i)))] H1 := by rw [← ht]; exact hB
      obtain ⟨hP, hD⟩ := tk_join3 (k := 1) (k' := 2) (k2 := 17 + i) hP hD rfl rfl (dw_fb hi0) (by omega) (by omega) (by omega) hk1 hB
      generalize H1 = H at hP hS ⊢
      have hP : va_P (dC, dI) clB (dw h dr db lg fa fr fb ka pg pn us di (va_up bt i (psB (bt i) (tb2 (bt i) 0 + 1))) (if (lfA lf z) = 0 then (wrD dk ((va_up bt i (psB (bt i) (tb2 (bt i) 0 + 1))) i) np z) else va_cpy ((va_up bt i (psB (bt i) (tb2 (bt i) 0 + 1))) i) (wrD dk ((va_up bt i (psB (bt i) (tb2 (bt i) 0 + 1))) i) np z) (z * 64) (np * 512 + z * 64) 64) (if (lfA lf z) = 0 then (lfA lf z) else if (lfA lf z) = -1 then (lfA lf z) else (lfA lf z) - 1) (if (lfA lf z) = 0 then (wn + nI z) else (wn + nI z) + 1) rd (if en < (plB (bt i)) then (plB (bt i)) else en) (if en < (plB (bt i)) then fl + 1 else fl) hd) H := (by rw [← dw_set_fbn hi0]; exact hP)
      have hD : va_D A (dw h dr db lg fa fr fb ka pg pn us di (va_up bt i (psB (bt i) (tb2 (bt i) 0 + 1))) (if (lfA lf z) = 0 then (wrD dk ((va_up bt i (psB (bt i) (tb2 (bt i) 0 + 1))) i) np z) else va_cpy ((va_up bt i (psB (bt i) (tb2 (bt i) 0 + 1))) i) (wrD dk ((va_up bt i (psB (bt i) (tb2 (bt i) 0 + 1))) i) np z) (z * 64) (np * 512 + z * 64) 64) (if (lfA lf z) = 0 then (lfA lf z) else if (lfA lf z) = -1 then (lfA lf z) else (lfA lf z) - 1) (if (lfA lf z) = 0 then (wn + nI z) else (wn + nI z) + 1) rd (if en < (plB (bt i)) then (plB (bt i)) else en) (if en < (plB (bt i)) then fl + 1 else fl) hd) := dw_D hDw
      replace hw := hw.trans (if_pos h0z)
      subst hw
      refine lv_if_ne (tgt := 56) hx hb dB_writePageOf_39 (by decide) (fun c_12 => ?_) (fun c_12 => ?_)
      · exact absurd c_12 (by decide)
      · refine lv_aload_n hx hb dB_writePageOf_42 rfl (lv_at hl 0 rfl) ?_
        have hFc := tk_freeW hD hS hA
        refine va_callv (va_runV (As := []) (rest := []) ⟨hx, hb, hml, hown, hts⟩ (c_B_losePower l dC dI ka _ h dr db lg fa fr fb pg pn us di (va_up bt i (psB (bt i) (tb2 (bt i) 0 + 1))) (if (lfA lf z) = 0 then (wrD dk ((va_up bt i (psB (bt i) (tb2 (bt i) 0 + 1))) i) np z) else va_cpy ((va_up bt i (psB (bt i) (tb2 (bt i) 0 + 1))) i) (wrD dk ((va_up bt i (psB (bt i) (tb2 (bt i) 0 + 1))) i) np z) (z * 64) (np * 512 + z * 64) 64) (if (lfA lf z) = 0 then (lfA lf z) else if (lfA lf z) = -1 then (lfA lf z) else (lfA lf z) - 1) (if (lfA lf z) = 0 then (wn + nI z) else (wn + nI z) + 1) rd (if en < (plB (bt i)) then (plB (bt i)) else en) (if en < (plB (bt i)) then fl + 1 else fl) hd ) (cwV 0 hts (tw_V wi_381 wi_383 wi_8 wi_24 wi_384) rfl rfl rfl (by decide +kernel) ⟨Nat.le_of_ble_eq_true rfl, Nat.le_of_ble_eq_true rfl⟩) ⟨fun a U g mk q => ⟨q.1, q.2.1, tk_E.call q.2.2.1, q.2.2.2⟩, va_recv hK hP (ci := 3) (q0 := 0) rfl rfl, fun U hU hW => ⟨rfl, by rw [hU], tk_E.warm hW hE, by rw [hU]; exact hP, hD.weaken (fun _ _ _ _ => trivial)⟩⟩ rfl rfl hl.1 rfl (lv_room (Nat.le_of_ble_eq_true rfl)) dB_writePageOf_43 ⟨Nat.zero_le _, Nat.zero_le _⟩) hS (fun q _ h => hFc q h) hFc (fun u_13 t H1 locs ht hvm hw hB hz1 hk1 hS => ?_)
        have hB : va_P (dC, dI) clB (dw h dr db lg fa fr fb ka (dropF (-1) pg 12) (dropF 0 pn 12) (dropF 0 us 12) (dropF 0 di 12) (va_up bt i (psB (bt i) (tb2 (bt i) 0 + 1))) (if (lfA lf z) = 0 then (wrD dk ((va_up bt i (psB (bt i) (tb2 (bt i) 0 + 1))) i) np z) else va_cpy ((va_up bt i (psB (bt i) (tb2 (bt i) 0 + 1))) i) (wrD dk ((va_up bt i (psB (bt i) (tb2 (bt i) 0 + 1))) i) np z) (z * 64) (np * 512 + z * 64) 64) (-1) (if (lfA lf z) = 0 then (wn + nI z) else (wn + nI z) + 1) rd (if en < (plB (bt i)) then (plB (bt i)) else en) (if en < (plB (bt i)) then fl + 1 else fl) 0) H1 := by rw [← ht]; exact hB
        obtain ⟨hP, hD⟩ := (⟨hB, dw_D hDw⟩ : va_P (dC, dI) clB (dw h dr db lg fa fr fb ka (dropF (-1) pg 12) (dropF 0 pn 12) (dropF 0 us 12) (dropF 0 di 12) (va_up bt i (psB (bt i) (tb2 (bt i) 0 + 1))) (if (lfA lf z) = 0 then (wrD dk ((va_up bt i (psB (bt i) (tb2 (bt i) 0 + 1))) i) np z) else va_cpy ((va_up bt i (psB (bt i) (tb2 (bt i) 0 + 1))) i) (wrD dk ((va_up bt i (psB (bt i) (tb2 (bt i) 0 + 1))) i) np z) (z * 64) (np * 512 + z * 64) 64) (-1) (if (lfA lf z) = 0 then (wn + nI z) else (wn + nI z) + 1) rd (if en < (plB (bt i)) then (plB (bt i)) else en) (if en < (plB (bt i)) then fl + 1 else fl) 0) H1 ∧ va_D A (dw h dr db lg fa fr fb ka (dropF (-1) pg 12) (dropF 0 pn 12) (dropF 0 us 12) (dropF 0 di 12) (va_up bt i (psB (bt i) (tb2 (bt i) 0 + 1))) (if (lfA lf z) = 0 then (wrD dk ((va_up bt i (psB (bt i) (tb2 (bt i) 0 + 1))) i) np z) else va_cpy ((va_up bt i (psB (bt i) (tb2 (bt i) 0 + 1))) i) (wrD dk ((va_up bt i (psB (bt i) (tb2 (bt i) 0 + 1))) i) np z) (z * 64) (np * 512 + z * 64) 64) (-1) (if (lfA lf z) = 0 then (wn + nI z) else (wn + nI z) + 1) rd (if en < (plB (bt i)) then (plB (bt i)) else en) (if en < (plB (bt i)) then fl + 1 else fl) 0))
        generalize H1 = H at hP hS ⊢
        have hP : va_P (dC, dI) clB (dw h dr db lg fa fr fb ka (dropF (-1) pg 12) (dropF 0 pn 12) (dropF 0 us 12) (dropF 0 di 12) (va_up bt i (psB (bt i) (tb2 (bt i) 0 + 1))) (if (lfA lf z) = 0 then (wrD dk ((va_up bt i (psB (bt i) (tb2 (bt i) 0 + 1))) i) np z) else va_cpy ((va_up bt i (psB (bt i) (tb2 (bt i) 0 + 1))) i) (wrD dk ((va_up bt i (psB (bt i) (tb2 (bt i) 0 + 1))) i) np z) (z * 64) (np * 512 + z * 64) 64) (-1) (if (lfA lf z) = 0 then (wn + nI z) else (wn + nI z) + 1) rd (if en < (plB (bt i)) then (plB (bt i)) else en) (if en < (plB (bt i)) then fl + 1 else fl) 0) H := hP
        have hD : va_D A (dw h dr db lg fa fr fb ka (dropF (-1) pg 12) (dropF 0 pn 12) (dropF 0 us 12) (dropF 0 di 12) (va_up bt i (psB (bt i) (tb2 (bt i) 0 + 1))) (if (lfA lf z) = 0 then (wrD dk ((va_up bt i (psB (bt i) (tb2 (bt i) 0 + 1))) i) np z) else va_cpy ((va_up bt i (psB (bt i) (tb2 (bt i) 0 + 1))) i) (wrD dk ((va_up bt i (psB (bt i) (tb2 (bt i) 0 + 1))) i) np z) (z * 64) (np * 512 + z * 64) 64) (-1) (if (lfA lf z) = 0 then (wn + nI z) else (wn + nI z) + 1) rd (if en < (plB (bt i)) then (plB (bt i)) else en) (if en < (plB (bt i)) then fl + 1 else fl) 0) := dw_D hDw
        have e1 : (if (lfA lf z) = 0 then (wn + nI z) else (wn + nI z) + 1) = wn + nI z := if_pos h0z
        have e2 : (if (lfA lf z) = 0 then (wrD dk ((va_up bt i (psB (bt i) (tb2 (bt i) 0 + 1))) i) np z) else va_cpy ((va_up bt i (psB (bt i) (tb2 (bt i) 0 + 1))) i) (wrD dk ((va_up bt i (psB (bt i) (tb2 (bt i) 0 + 1))) i) np z) (z * 64) (np * 512 + z * 64) 64) = wrD dk ((va_up bt i (psB (bt i) (tb2 (bt i) 0 + 1))) i) np z := if_pos h0z
        rw [e1, e2, ez] at hP
        refine vx_throwS (names := xUp) (text := "the power went") hx hb hst hown (by decide +kernel) (by decide +kernel) (hq _ wi_389) (hq _ wi_37) (hXx.2 3 _ rfl) (tk_at xg_UOE xb_UOE hq hXx.1) xo_UOE hZz.1 hZz.2 hS (hl.1.trans hml.symm) dB_writePageOf_46 dB_writePageOf_49 dB_writePageOf_50 dB_writePageOf_52 dB_writePageOf_55 (fun z hz => (hT z hz).elim) (Nat.le_of_ble_eq_true rfl) (Nat.le_of_ble_eq_true rfl) (Nat.le_of_ble_eq_true rfl) (Nat.le_of_ble_eq_true rfl) hlocks (fun t hvm9 hz9 hk9 => ⟨(), trivial, ⟨rfl, tk_keptP hP hk9⟩, tk_keptF hS hz9 hk9⟩) hS.2.2 (Nat.le_of_ble_eq_true rfl) (Nat.le_of_ble_eq_true rfl)
end
section
theorem c_B_frameByHand2 (l : Launch) (dC : Nat → ClassId) (dI : Nat → Nat → Nat) (ka : Nat → ClassId) (sz : Nat) (h dr db lg fa : Nat) (fr fb : Nat → Nat) (pg pn us di : Nat → Int32) (bt : Nat → Nat → Int32) (dk : Nat → Int32) (lf wn rd en fl : Int32) (q : Nat) (f0 : Nat) (u1 : Nat → Int32) (hq0 : q < 12) (hHB : hbU pn 48 (us, q) = (u1, f0)) : Met l yB_frameByHand wB_frameByHand ({ frames := 1, cells := 0, slots := 0, locals := 20 }) (va_Pc [.ref h] (fun U => U.heap.size = sz ∧ tk_E dC dI ka U ∧ va_P (dC, dI) clB (dw h dr db lg fa fr fb ka pg pn us di bt dk lf wn rd en fl (nI q)) U.heap ∧ va_D (fun _ => True) (dw h dr db lg fa fr fb ka pg pn us di bt dk lf wn rd en fl (nI q)))) (va_Qi (fun (r : Int32) (_ : Unit) => r = nI f0) (fun _ t => va_P (dC, dI) clB (dw h dr db lg fa fr fb ka pg pn u1 di bt dk lf wn rd en fl (nI (nxt f0))) t.heap) (va_A (dw h dr db lg fa fr fb ka pg pn us di bt dk lf wn rd en fl (nI q)) sz)) 0 0 (va_A (dw h dr db lg fa fr fb ka pg pn us di bt dk lf wn rd en fl (nI q)) sz) := by
  have h9 := c_B_frameByHand l dC dI ka sz h dr db lg fa fr fb pg pn us di bt dk lf wn rd en fl q hq0
  rw [hHB] at h9
  exact h9

set_option maxHeartbeats 4000000 in
set_option maxRecDepth 100000 in
theorem c_B_findFrame_e (l : Launch) (dC : Nat → ClassId) (dI : Nat → Nat → Nat) (ka : Nat → ClassId) (sz : Nat) (h dr db lg fa : Nat) (fr fb : Nat → Nat) (pg pn us di : Nat → Int32) (bt : Nat → Nat → Int32) (dk : Nat → Int32) (lf wn rd en fl : Int32) (q : Nat) (f0 : Nat) (hf0 : f0 < 12) (hfw : fwR pg (-1) (nI f0)) : Met l yB_findFrame wB_findFrame ({ frames := 3, cells := 0, slots := 0, locals := 130 }) (va_Pc [.ref h] (fun U => U.heap.size = sz ∧ tk_E dC dI ka U ∧ va_P (dC, dI) clB (dw h dr db lg fa fr fb ka pg pn us di bt dk lf wn rd en fl (nI q)) U.heap ∧ va_D (fun _ => True) (dw h dr db lg fa fr fb ka pg pn us di bt dk lf wn rd en fl (nI q)))) (va_Qi (fun (r : Int32) (_ : Unit) => r = nI f0) (fun _ t => va_P (dC, dI) clB (dw h dr db lg fa fr fb ka pg pn us di bt dk lf wn rd en fl (nI q)) t.heap) (va_A (dw h dr db lg fa fr fb ka pg pn us di bt dk lf wn rd en fl (nI q)) sz)) 0 0 (va_A (dw h dr db lg fa fr fb ka pg pn us di bt dk lf wn rd en fl (nI q)) sz) := by
  refine Met.ofW (cc := cB_findFrame) (maxL := 2) (ret := (some .int)) (by decide) rfl ?_
  intro p e s m args below meth c s₁ B hml hv
  obtain ⟨rfl, hsz, hE, hP, hD0⟩ := hv
  have hx := B.exec
  have hb := B.bytes
  have hr := B.returns
  have hts := atoms_spec (ws := wB_findFrame) B.pre
  have hq : ∀ w ∈ lwg, w.before _ s = true := fun w h => hts w (List.mem_cons_of_mem _ h)
  have hown : s.vm.findClass RB = some m.cls := findClass_of_methodNamed B.named
  have hlocks := B.notSynchronized
  have hK := hE.1
  have hN := hE.2
  subst hsz
  have hD := hD0.self (sz := s.heap.size)
  generalize hAe : va_A (dw h dr db lg fa fr fb ka pg pn us di bt dk lf wn rd en fl (nI q)) s.heap.size = A at hD ⊢
  have hA : ∀ q : Nat, s.heap.size ≤ q → A q := fun q h => by rw [← hAe]; exact Or.inr h
  have hS : va_S A s.heap s.heap [] := va_S.rf
  have hDw := hD
  have hP : va_P (dC, dI) clB (dw h dr db lg fa fr fb ka pg pn us di bt dk lf wn rd en fl (nI q)) s.heap := hP
  have hl := lv_entry ([.ref h]) (n := 2) (Nat.le_of_ble_eq_true rfl)
  rw [lg_entry_eq]
  generalize (lg_sl ([.ref h]) ++ List.replicate (2 - (lg_sl ([.ref h])).length) Slot.unset).toArray = ls at hl ⊢
  have hl : lv_has ls 2 [(0, .ref h)] := hl
  refine lv_aload_n hx hb dB_findFrame_0 rfl (lv_at hl 0 rfl) ?_
  refine lv_iconst (v := (-1)) hx hb dB_findFrame_1 (by decide) ?_
  refine vp_callSi (va_Run.run (va_runV (As := [.int (-1)]) (rest := []) ⟨hx, hb, hml, hown, hts⟩ (c_B_frameWith l dC dI ka h dr db lg fa fr fb pg pn us di bt dk lf wn rd en fl (nI q) (-1) (nI f0) hfw) (cwV 1 hts (tw_V wi_291 wi_293 wi_2 wi_24 wi_294) rfl rfl rfl (by decide +kernel) ⟨Nat.le_of_ble_eq_true rfl, Nat.le_of_ble_eq_true rfl⟩) ⟨fun a U g mk q => ⟨q.1, tk_E.call q.2.1, q.2.2⟩, va_recv hK hP (ci := 3) (q0 := 0) rfl rfl, fun U hU hW => ⟨rfl, tk_E.warm hW hE, by rw [hU]; exact hP⟩⟩ rfl rfl hl.1 rfl (lv_room (Nat.le_of_ble_eq_true rfl)) dB_findFrame_2 ⟨Nat.zero_le _, Nat.zero_le _⟩)) (fun r_1 er_1 => ?_)
  subst er_1
  refine lv_istore_n (lv' := [(1, .int (nI f0)), (0, .ref h)]) hx hb dB_findFrame_5 rfl hl (by decide) rfl (fun ls hl => ?_)
  refine lv_iload_n hx hb dB_findFrame_6 rfl (lv_at hl 0 rfl) ?_
  refine lv_iconst (v := (-1)) hx hb dB_findFrame_7 (by decide) ?_
  refine lv_icmp_eq (tgt := 13) hx hb dB_findFrame_8 (by decide) (fun c_2 => ?_) (fun c_2 => ?_)
  · exact absurd (c_2 ▸ nI_pos (n := f0) (by omega)) (by decide)
  · refine lv_iload_n hx hb dB_findFrame_11 rfl (lv_at hl 0 rfl) ?_
    exact W.iret (v := (nI f0)) hx hb hr (fun t ht hW => ⟨⟨(nI f0), (), rfl, rfl, by show va_P _ _ _ t.heap; rw [ht]; exact hP⟩, hS.F ht⟩) hS.2.2 dB_findFrame_12

set_option maxHeartbeats 4000000 in
set_option maxRecDepth 100000 in
theorem c_B_findFrame_c (l : Launch) (dC : Nat → ClassId) (dI : Nat → Nat → Nat) (ka : Nat → ClassId) (sz : Nat) (h dr db lg fa : Nat) (fr fb : Nat → Nat) (pg pn us di : Nat → Int32) (bt : Nat → Nat → Int32) (dk : Nat → Int32) (lf wn rd en fl : Int32) (q : Nat) (f0 : Nat) (u1 : Nat → Int32) (hne : ∀ i, i < 12 → pg i ≠ -1) (hq0 : q < 12) (hHB : hbU pn 48 (us, q) = (u1, f0)) (hf0 : f0 < 12) (hd0 : di f0 = 0) : Met l yB_findFrame wB_findFrame ({ frames := 3, cells := 0, slots := 0, locals := 130 }) (va_Pc [.ref h] (fun U => U.heap.size = sz ∧ tk_E dC dI ka U ∧ va_P (dC, dI) clB (dw h dr db lg fa fr fb ka pg pn us di bt dk lf wn rd en fl (nI q)) U.heap ∧ va_D (fun _ => True) (dw h dr db lg fa fr fb ka pg pn us di bt dk lf wn rd en fl (nI q)))) (va_Qi (fun (r : Int32) (_ : Unit) => r = nI f0) (fun _ t => va_P (dC, dI) clB (dw h dr db lg fa fr fb ka pg pn u1 di bt dk lf wn rd en fl (nI (nxt f0))) t.heap) (va_A (dw h dr db lg fa fr fb ka pg pn us di bt dk lf wn rd en fl (nI q)) sz)) 0 0 (va_A (dw h dr db lg fa fr fb ka pg pn us di bt dk lf wn rd en fl (nI q)) sz) := by
  refine Met.ofW (cc := cB_findFrame) (maxL := 2) (ret := (some .int)) (by decide) rfl ?_
  intro p e s m args below meth c s₁ B hml hv
  obtain ⟨rfl, hsz, hE, hP, hD0⟩ := hv
  have hx := B.exec
  have hb := B.bytes
  have hr := B.returns
  have hts := atoms_spec (ws := wB_findFrame) B.pre
  have hq : ∀ w ∈ lwg, w.before _ s = true := fun w h => hts w (List.mem_cons_of_mem _ h)
  have hown : s.vm.findClass RB = some m.cls := findClass_of_methodNamed B.named
  have hlocks := B.notSynchronized
  have hK := hE.1
  have hN := hE.2
  subst hsz
  have hD := hD0.self (sz := s.heap.size)
  generalize hAe : va_A (dw h dr db lg fa fr fb ka pg pn us di bt dk lf wn rd en fl (nI q)) s.heap.size = A at hD ⊢
  have hA : ∀ q : Nat, s.heap.size ≤ q → A q := fun q h => by rw [← hAe]; exact Or.inr h
  have hS : va_S A s.heap s.heap [] := va_S.rf
  have hDw := hD
  have hP : va_P (dC, dI) clB (dw h dr db lg fa fr fb ka pg pn us di bt dk lf wn rd en fl (nI q)) s.heap := hP
  have hl := lv_entry ([.ref h]) (n := 2) (Nat.le_of_ble_eq_true rfl)
  rw [lg_entry_eq]
  generalize (lg_sl ([.ref h]) ++ List.replicate (2 - (lg_sl ([.ref h])).length) Slot.unset).toArray = ls at hl ⊢
  have hl : lv_has ls 2 [(0, .ref h)] := hl
  refine lv_aload_n hx hb dB_findFrame_0 rfl (lv_at hl 0 rfl) ?_
  refine lv_iconst (v := (-1)) hx hb dB_findFrame_1 (by decide) ?_
  refine vp_callSi (va_Run.run (va_runV (As := [.int (-1)]) (rest := []) ⟨hx, hb, hml, hown, hts⟩ (c_B_frameWith l dC dI ka h dr db lg fa fr fb pg pn us di bt dk lf wn rd en fl (nI q) (-1) (-1) (Or.inl ⟨rfl, hne⟩)) (cwV 1 hts (tw_V wi_291 wi_293 wi_2 wi_24 wi_294) rfl rfl rfl (by decide +kernel) ⟨Nat.le_of_ble_eq_true rfl, Nat.le_of_ble_eq_true rfl⟩) ⟨fun a U g mk q => ⟨q.1, tk_E.call q.2.1, q.2.2⟩, va_recv hK hP (ci := 3) (q0 := 0) rfl rfl, fun U hU hW => ⟨rfl, tk_E.warm hW hE, by rw [hU]; exact hP⟩⟩ rfl rfl hl.1 rfl (lv_room (Nat.le_of_ble_eq_true rfl)) dB_findFrame_2 ⟨Nat.zero_le _, Nat.zero_le _⟩)) (fun r_1 er_1 => ?_)
  subst er_1
  refine lv_istore_n (lv' := [(1, .int (-1)), (0, .ref h)]) hx hb dB_findFrame_5 rfl hl (by decide) rfl (fun ls hl => ?_)
  refine lv_iload_n hx hb dB_findFrame_6 rfl (lv_at hl 0 rfl) ?_
  refine lv_iconst (v := (-1)) hx hb dB_findFrame_7 (by decide) ?_
  refine lv_icmp_eq (tgt := 13) hx hb dB_findFrame_8 (by decide) (fun c_2 => ?_) (fun c_2 => ?_)
  · refine lv_aload_n hx hb dB_findFrame_13 rfl (lv_at hl 1 rfl) ?_
    have hFc := tk_freeW hD hS hA
    refine va_calli (va_runV (As := []) (rest := []) ⟨hx, hb, hml, hown, hts⟩ (c_B_frameByHand2 l dC dI ka _ h dr db lg fa fr fb pg pn us di bt dk lf wn rd en fl q f0 u1 hq0 hHB) (cwV 0 hts (tw_V wi_342 wi_344 wi_5 wi_24 wi_345) rfl rfl rfl (by decide +kernel) ⟨Nat.le_of_ble_eq_true rfl, Nat.le_of_ble_eq_true rfl⟩) ⟨fun a U g mk q => ⟨q.1, q.2.1, tk_E.call q.2.2.1, q.2.2.2⟩, va_recv hK hP (ci := 3) (q0 := 0) rfl rfl, fun U hU hW => ⟨rfl, by rw [hU], tk_E.warm hW hE, by rw [hU]; exact hP, hD.weaken (fun _ _ _ _ => trivial)⟩⟩ rfl rfl hl.1 rfl (lv_room (Nat.le_of_ble_eq_true rfl)) dB_findFrame_14 ⟨Nat.zero_le _, Nat.zero_le _⟩) hS (fun q _ h => hFc q h) hFc (fun r_4 u_3 t H1 locs ht hvm hw hB hz1 hk1 hS => ?_)
    have hB : va_P (dC, dI) clB (dw h dr db lg fa fr fb ka pg pn u1 di bt dk lf wn rd en fl (nI (nxt f0))) H1 := by rw [← ht]; exact hB
    obtain ⟨hP, hD⟩ := (⟨hB, dw_D hDw⟩ : va_P (dC, dI) clB (dw h dr db lg fa fr fb ka pg pn u1 di bt dk lf wn rd en fl (nI (nxt f0))) H1 ∧ va_D A (dw h dr db lg fa fr fb ka pg pn u1 di bt dk lf wn rd en fl (nI (nxt f0))))
    generalize H1 = H at hP hS ⊢
    have hP : va_P (dC, dI) clB (dw h dr db lg fa fr fb ka pg pn u1 di bt dk lf wn rd en fl (nI (nxt f0))) H := hP
    have hD : va_D A (dw h dr db lg fa fr fb ka pg pn u1 di bt dk lf wn rd en fl (nI (nxt f0))) := dw_D hDw
    subst hw
    refine lv_istore_n (lv' := [(1, .int (nI f0)), (0, .ref h)]) hx hb dB_findFrame_17 rfl hl (by decide) rfl (fun ls hl => ?_)
    refine lv_aload_n hx hb dB_findFrame_18 rfl (lv_at hl 1 rfl) ?_
    refine va_get (D := (dC, dI)) (ci := 3) (v := .ref fa) (C := RB) (T := TB) (N := 4) hx hb hts (inC inB) hown hK hP 0 rfl rfl 2 (by decide) (hq _ wi_116) (fun _ h9 => h9) rfl dB_findFrame_19 ?_
    refine lv_iload_n hx hb dB_findFrame_22 rfl (lv_at hl 0 rfl) ?_
    refine tk_aald (n := f0) (y := fr f0) hx hb hK hP 4 1 rfl rfl rfl hf0 (by decide) rfl dB_findFrame_23 ?_
    refine va_getN (D := (dC, dI)) (ci := 1) (v := .int (di f0)) (C := RF) (T := TF) (N := 5) hx hb hts (inC inF) hown hK hP (5 + f0) (dw_fr hf0) rfl 4 (by decide) (va_Nw.use rfl (hN _ ns_12)) (fun _ h9 => h9) rfl dB_findFrame_24 ?_
    refine lv_if_eq (tgt := 40) hx hb dB_findFrame_27 (by decide) (fun c_5 => ?_) (fun c_5 => ?_)
    · refine lv_iload_n hx hb dB_findFrame_40 rfl (lv_at hl 0 rfl) ?_
      exact W.iret (v := (nI f0)) hx hb hr (fun t ht hW => ⟨⟨(nI f0), (), rfl, rfl, by show va_P _ _ _ t.heap; rw [ht]; exact hP⟩, hS.F ht⟩) hS.2.2 dB_findFrame_41
    · exact absurd hd0 c_5
  · exact absurd c_2 (by decide)

set_option maxHeartbeats 4000000 in
set_option maxRecDepth 100000 in
theorem c_B_findFrame_d (l : Launch) (dC : Nat → ClassId) (dI : Nat → Nat → Nat) (ka : Nat → ClassId) (sz : Nat) (h dr db lg fa : Nat) (fr fb : Nat → Nat) (pg pn us di : Nat → Int32) (bt : Nat → Nat → Int32) (dk : Nat → Int32) (lf wn rd en fl : Int32) (q : Nat) (f0 np : Nat) (u1 : Nat → Int32) (hne : ∀ i, i < 12 → pg i ≠ -1) (hq0 : q < 12) (hHB : hbU pn 48 (us, q) = (u1, f0)) (hf0 : f0 < 12) (hd0 : ¬ di f0 = 0) (hpg : pg f0 = nI np) (hnp : np < 192) (hF : sb_Fit (bt f0)) (hok : ∀ z, z < 8 → ¬ lfA lf z = 0) : Met l yB_findFrame wB_findFrame ({ frames := 3, cells := 0, slots := 0, locals := 130 }) (va_Pc [.ref h] (fun U => U.heap.size = sz ∧ tk_E dC dI ka U ∧ va_P (dC, dI) clB (dw h dr db lg fa fr fb ka pg pn us di bt dk lf wn rd en fl (nI q)) U.heap ∧ va_D (fun _ => True) (dw h dr db lg fa fr fb ka pg pn us di bt dk lf wn rd en fl (nI q)))) (va_Qi (fun (r : Int32) (_ : Unit) => r = nI f0) (fun _ t => va_P (dC, dI) clB (dw h dr db lg fa fr fb ka pg pn u1 (upd di f0 0) (va_up bt f0 (psB (bt f0) (tb2 (bt f0) 0 + 1))) (wrD dk ((va_up bt f0 (psB (bt f0) (tb2 (bt f0) 0 + 1))) f0) np 8) (lfA lf 8) (wn + nI 8) rd (if en < (plB (bt f0)) then (plB (bt f0)) else en) (if en < (plB (bt f0)) then fl + 1 else fl) (nI (nxt f0))) t.heap) (va_A (dw h dr db lg fa fr fb ka pg pn us di bt dk lf wn rd en fl (nI q)) sz)) 0 0 (va_A (dw h dr db lg fa fr fb ka pg pn us di bt dk lf wn rd en fl (nI q)) sz) := by
  refine Met.ofW (cc := cB_findFrame) (maxL := 2) (ret := (some .int)) (by decide) rfl ?_
  intro p e s m args below meth c s₁ B hml hv
  obtain ⟨rfl, hsz, hE, hP, hD0⟩ := hv
  have hx := B.exec
  have hb := B.bytes
  have hr := B.returns
  have hts := atoms_spec (ws := wB_findFrame) B.pre
  have hq : ∀ w ∈ lwg, w.before _ s = true := fun w h => hts w (List.mem_cons_of_mem _ h)
  have hown : s.vm.findClass RB = some m.cls := findClass_of_methodNamed B.named
  have hlocks := B.notSynchronized
  have hK := hE.1
  have hN := hE.2
  subst hsz
  have hD := hD0.self (sz := s.heap.size)
  generalize hAe : va_A (dw h dr db lg fa fr fb ka pg pn us di bt dk lf wn rd en fl (nI q)) s.heap.size = A at hD ⊢
  have hA : ∀ q : Nat, s.heap.size ≤ q → A q := fun q h => by rw [← hAe]; exact Or.inr h
  have hS : va_S A s.heap s.heap [] := va_S.rf
  have hDw := hD
  have hP : va_P (dC, dI) clB (dw h dr db lg fa fr fb ka pg pn us di bt dk lf wn rd en fl (nI q)) s.heap := hP
  have hl := lv_entry ([.ref h]) (n := 2) (Nat.le_of_ble_eq_true rfl)
  rw [lg_entry_eq]
  generalize (lg_sl ([.ref h]) ++ List.replicate (2 - (lg_sl ([.ref h])).length) Slot.unset).toArray = ls at hl ⊢
  have hl : lv_has ls 2 [(0, .ref h)] := hl
  refine lv_aload_n hx hb dB_findFrame_0 rfl (lv_at hl 0 rfl) ?_
  refine lv_iconst (v := (-1)) hx hb dB_findFrame_1 (by decide) ?_
  refine vp_callSi (va_Run.run (va_runV (As := [.int (-1)]) (rest := []) ⟨hx, hb, hml, hown, hts⟩ (c_B_frameWith l dC dI ka h dr db lg fa fr fb pg pn us di bt dk lf wn rd en fl (nI q) (-1) (-1) (Or.inl ⟨rfl, hne⟩)) (cwV 1 hts (tw_V wi_291 wi_293 wi_2 wi_24 wi_294) rfl rfl rfl (by decide +kernel) ⟨Nat.le_of_ble_eq_true rfl, Nat.le_of_ble_eq_true rfl⟩) ⟨fun a U g mk q => ⟨q.1, tk_E.call q.2.1, q.2.2⟩, va_recv hK hP (ci := 3) (q0 := 0) rfl rfl, fun U hU hW => ⟨rfl, tk_E.warm hW hE, by rw [hU]; exact hP⟩⟩ rfl rfl hl.1 rfl (lv_room (Nat.le_of_ble_eq_true rfl)) dB_findFrame_2 ⟨Nat.zero_le _, Nat.zero_le _⟩)) (fun r_1 er_1 => ?_)
  subst er_1
  refine lv_istore_n (lv' := [(1, .int (-1)), (0, .ref h)]) hx hb dB_findFrame_5 rfl hl (by decide) rfl (fun ls hl => ?_)
  refine lv_iload_n hx hb dB_findFrame_6 rfl (lv_at hl 0 rfl) ?_
  refine lv_iconst (v := (-1)) hx hb dB_findFrame_7 (by decide) ?_
  refine lv_icmp_eq (tgt := 13) hx hb dB_findFrame_8 (by decide) (fun c_2 => ?_) (fun c_2 => ?_)
  · refine lv_aload_n hx hb dB_findFrame_13 rfl (lv_at hl 1 rfl) ?_
    have hFc := tk_freeW hD hS hA
    refine va_calli (va_runV (As := []) (rest := []) ⟨hx, hb, hml, hown, hts⟩ (c_B_frameByHand2 l dC dI ka _ h dr db lg fa fr fb pg pn us di bt dk lf wn rd en fl q f0 u1 hq0 hHB) (cwV 0 hts (tw_V wi_342 wi_344 wi_5 wi_24 wi_345) rfl rfl rfl (by decide +kernel) ⟨Nat.le_of_ble_eq_true rfl, Nat.le_of_ble_eq_true rfl⟩) ⟨fun a U g mk q => ⟨q.1, q.2.1, tk_E.call q.2.2.1, q.2.2.2⟩, va_recv hK hP (ci := 3) (q0 := 0) rfl rfl, fun U hU hW => ⟨rfl, by rw [hU], tk_E.warm hW hE, by rw [hU]; exact hP, hD.weaken (fun _ _ _ _ => trivial)⟩⟩ rfl rfl hl.1 rfl (lv_room (Nat.le_of_ble_eq_true rfl)) dB_findFrame_14 ⟨Nat.zero_le _, Nat.zero_le _⟩) hS (fun q _ h => hFc q h) hFc (fun r_4 u_3 t H1 locs ht hvm hw hB hz1 hk1 hS => ?_)
    have hB : va_P (dC, dI) clB (dw h dr db lg fa fr fb ka pg pn u1 di bt dk lf wn rd en fl (nI (nxt f0))) H1 := by rw [← ht]; exact hB
    obtain ⟨hP, hD⟩ := (⟨hB, dw_D hDw⟩ : va_P (dC, dI) clB (dw h dr db lg fa fr fb ka pg pn u1 di bt dk lf wn rd en fl (nI (nxt f0))) H1 ∧ va_D A (dw h dr db lg fa fr fb ka pg pn u1 di bt dk lf wn rd en fl (nI (nxt f0))))
    generalize H1 = H at hP hS ⊢
    have hP : va_P (dC, dI) clB (dw h dr db lg fa fr fb ka pg pn u1 di bt dk lf wn rd en fl (nI (nxt f0))) H := hP
    have hD : va_D A (dw h dr db lg fa fr fb ka pg pn u1 di bt dk lf wn rd en fl (nI (nxt f0))) := dw_D hDw
    subst hw
    refine lv_istore_n (lv' := [(1, .int (nI f0)), (0, .ref h)]) hx hb dB_findFrame_17 rfl hl (by decide) rfl (fun ls hl => ?_)
    refine lv_aload_n hx hb dB_findFrame_18 rfl (lv_at hl 1 rfl) ?_
    refine va_get (D := (dC, dI)) (ci := 3) (v := .ref fa) (C := RB) (T := TB) (N := 4) hx hb hts (inC inB) hown hK hP 0 rfl rfl 2 (by decide) (hq _ wi_116) (fun _ h9 => h9) rfl dB_findFrame_19 ?_
    refine lv_iload_n hx hb dB_findFrame_22 rfl (lv_at hl 0 rfl) ?_
    refine tk_aald (n := f0) (y := fr f0) hx hb hK hP 4 1 rfl rfl rfl hf0 (by decide) rfl dB_findFrame_23 ?_
    refine va_getN (D := (dC, dI)) (ci := 1) (v := .int (di f0)) (C := RF) (T := TF) (N := 5) hx hb hts (inC inF) hown hK hP (5 + f0) (dw_fr hf0) rfl 4 (by decide) (va_Nw.use rfl (hN _ ns_12)) (fun _ h9 => h9) rfl dB_findFrame_24 ?_
    refine lv_if_eq (tgt := 40) hx hb dB_findFrame_27 (by decide) (fun c_5 => ?_) (fun c_5 => ?_)
    · exact absurd c_5 hd0
    · refine lv_aload_n hx hb dB_findFrame_30 rfl (lv_at hl 1 rfl) ?_
      refine lv_aload_n hx hb dB_findFrame_31 rfl (lv_at hl 1 rfl) ?_
      refine va_get (D := (dC, dI)) (ci := 3) (v := .ref fa) (C := RB) (T := TB) (N := 4) hx hb hts (inC inB) hown hK hP 0 rfl rfl 2 (by decide) (hq _ wi_116) (fun _ h9 => h9) rfl dB_findFrame_32 ?_
      refine lv_iload_n hx hb dB_findFrame_35 rfl (lv_at hl 0 rfl) ?_
      refine tk_aald (n := f0) (y := fr f0) hx hb hK hP 4 1 rfl rfl rfl hf0 (by decide) rfl dB_findFrame_36 ?_
      have hFc := tk_freeW hD hS hA
      refine va_callv (va_runV (As := [.ref (fr f0)]) (rest := []) ⟨hx, hb, hml, hown, hts⟩ (c_B_writePageOf_ok l dC dI ka _ h dr db lg fa fr fb pg pn u1 di bt dk lf wn rd en fl (nI (nxt f0)) f0 np hf0 hpg hnp hF hok) (cwV 1 hts (tw_V wi_357 wi_359 wi_6 wi_24 wi_360) rfl rfl rfl (by decide +kernel) ⟨Nat.le_of_ble_eq_true rfl, Nat.le_of_ble_eq_true rfl⟩) ⟨fun a U g mk q => ⟨q.1, q.2.1, tk_E.call q.2.2.1, q.2.2.2⟩, va_recv hK hP (ci := 3) (q0 := 0) rfl rfl, fun U hU hW => ⟨rfl, by rw [hU], tk_E.warm hW hE, by rw [hU]; exact hP, hD.weaken (fun _ _ _ _ => trivial)⟩⟩ rfl rfl hl.1 rfl (lv_room (Nat.le_of_ble_eq_true rfl)) dB_findFrame_37 ⟨Nat.zero_le _, Nat.zero_le _⟩) hS (fun q _ h => hFc q h) hFc (fun u_6 t H1 locs ht hvm hw hB hz1 hk1 hS => ?_)
      have hB : va_P (dC, dI) clB (dw h dr db lg fa fr fb ka pg pn u1 (upd di f0 0) (va_up bt f0 (psB (bt f0) (tb2 (bt f0) 0 + 1))) (wrD dk ((va_up bt f0 (psB (bt f0) (tb2 (bt f0) 0 + 1))) f0) np 8) (lfA lf 8) (wn + nI 8) rd (if en < (plB (bt f0)) then (plB (bt f0)) else en) (if en < (plB (bt f0)) then fl + 1 else fl) (nI (nxt f0))) H1 := by rw [← ht]; exact hB
      obtain ⟨hP, hD⟩ := (⟨hB, dw_D hDw⟩ : va_P (dC, dI) clB (dw h dr db lg fa fr fb ka pg pn u1 (upd di f0 0) (va_up bt f0 (psB (bt f0) (tb2 (bt f0) 0 + 1))) (wrD dk ((va_up bt f0 (psB (bt f0) (tb2 (bt f0) 0 + 1))) f0) np 8) (lfA lf 8) (wn + nI 8) rd (if en < (plB (bt f0)) then (plB (bt f0)) else en) (if en < (plB (bt f0)) then fl + 1 else fl) (nI (nxt f0))) H1 ∧ va_D A (dw h dr db lg fa fr fb ka pg pn u1 (upd di f0 0) (va_up bt f0 (psB (bt f0) (tb2 (bt f0) 0 + 1))) (wrD dk ((va_up bt f0 (psB (bt f0) (tb2 (bt f0) 0 + 1))) f0) np 8) (lfA lf 8) (wn + nI 8) rd (if en < (plB (bt f0)) then (plB (bt f0)) else en) (if en < (plB (bt f0)) then fl + 1 else fl) (nI (nxt f0))))
      generalize H1 = H at hP hS ⊢
      have hP : va_P (dC, dI) clB (dw h dr db lg fa fr fb ka pg pn u1 (upd di f0 0) (va_up bt f0 (psB (bt f0) (tb2 (bt f0) 0 + 1))) (wrD dk ((va_up bt f0 (psB (bt f0) (tb2 (bt f0) 0 + 1))) f0) np 8) (lfA lf 8) (wn + nI 8) rd (if en < (plB (bt f0)) then (plB (bt f0)) else en) (if en < (plB (bt f0)) then fl + 1 else fl) (nI (nxt f0))) H := hP
      have hD : va_D A (dw h dr db lg fa fr fb ka pg pn u1 (upd di f0 0) (va_up bt f0 (psB (bt f0) (tb2 (bt f0) 0 + 1))) (wrD dk ((va_up bt f0 (psB (bt f0) (tb2 (bt f0) 0 + 1))) f0) np 8) (lfA lf 8) (wn + nI 8) rd (if en < (plB (bt f0)) then (plB (bt f0)) else en) (if en < (plB (bt f0)) then fl + 1 else fl) (nI (nxt f0))) := dw_D hDw
      refine lv_iload_n hx hb dB_findFrame_40 rfl (lv_at hl 0 rfl) ?_
      exact W.iret (v := (nI f0)) hx hb hr (fun t ht hW => ⟨⟨(nI f0), (), rfl, rfl, by show va_P _ _ _ t.heap; rw [ht]; exact hP⟩, hS.F ht⟩) hS.2.2 dB_findFrame_41
  · exact absurd c_2 (by decide)

set_option maxHeartbeats 4000000 in
set_option maxRecDepth 100000 in
theorem c_B_findFrame_x (l : Launch) (hst : l.stackTraces = false) (dC : Nat → ClassId) (dI : Nat → Nat → Nat) (ka : Nat → ClassId) (sa : Nat → Nat) (sz : Nat) (h dr db lg fa : Nat) (fr fb : Nat → Nat) (pg pn us di : Nat → Int32) (bt : Nat → Nat → Int32) (dk : Nat → Int32) (lf wn rd en fl : Int32) (q : Nat) (f0 np mm : Nat) (u1 : Nat → Int32) (hne : ∀ i, i < 12 → pg i ≠ -1) (hq0 : q < 12) (hHB : hbU pn 48 (us, q) = (u1, f0)) (hf0 : f0 < 12) (hd0 : ¬ di f0 = 0) (hpg : pg f0 = nI np) (hnp : np < 192) (hF : sb_Fit (bt f0)) (hm8 : mm < 8) (hnz : ∀ z, z < mm → ¬ lfA lf z = 0) (h0 : lfA lf mm = 0) : vx_Met l yB_findFrame wB_findFrame ({ frames := 7, cells := 1, slots := 6, locals := 106 }) (va_Pc [.ref h] (fun U => U.heap.size = sz ∧ tk_E dC dI ka U ∧ tk_X sa U ∧ tk_Z (va_A (dw h dr db lg fa fr fb ka pg pn us di bt dk lf wn rd en fl (nI q)) sz) U U.heap ∧ va_P (dC, dI) clB (dw h dr db lg fa fr fb ka pg pn us di bt dk lf wn rd en fl (nI q)) U.heap ∧ va_D (fun _ => True) (dw h dr db lg fa fr fb ka pg pn us di bt dk lf wn rd en fl (nI q)))) (va_Qi (fun (_ : Int32) (_ : Unit) => False) (fun _ _ => True) (va_A (dw h dr db lg fa fr fb ka pg pn us di bt dk lf wn rd en fl (nI q)) sz)) (vx_X (fun _ : Unit => True) (fun E _ t => E = xUOE ∧ va_P (dC, dI) clB (dw h dr db lg fa fr fb ka (dropF (-1) pg 12) (dropF 0 pn 12) (dropF 0 u1 12) (dropF 0 di 12) (va_up bt f0 (psB (bt f0) (tb2 (bt f0) 0 + 1))) (wrD dk ((va_up bt f0 (psB (bt f0) (tb2 (bt f0) 0 + 1))) f0) np mm) (-1) (wn + nI mm) rd (if en < (plB (bt f0)) then (plB (bt f0)) else en) (if en < (plB (bt f0)) then fl + 1 else fl) 0) t.heap) (va_A (dw h dr db lg fa fr fb ka pg pn us di bt dk lf wn rd en fl (nI q)) sz)) 1 6 (va_A (dw h dr db lg fa fr fb ka pg pn us di bt dk lf wn rd en fl (nI q)) sz) := by
  refine vx_ofW (cc := cB_findFrame) (maxL := 2) (ret := (some .int)) (by decide) rfl ?_
  intro p e s m args below meth c s₁ B hml hT hv
  obtain ⟨rfl, hsz, hE, hXx, hZz, hP, hD0⟩ := hv
  have hx := B.exec
  have hb := B.bytes
  have hr := B.returns
  have hts := atoms_spec (ws := wB_findFrame) B.pre
  have hq : ∀ w ∈ lwg, w.before _ s = true := fun w h => hts w (List.mem_cons_of_mem _ h)
  have hown : s.vm.findClass RB = some m.cls := findClass_of_methodNamed B.named
  have hlocks := B.notSynchronized
  have hK := hE.1
  have hN := hE.2
  subst hsz
  have hD := hD0.self (sz := s.heap.size)
  generalize hAe : va_A (dw h dr db lg fa fr fb ka pg pn us di bt dk lf wn rd en fl (nI q)) s.heap.size = A at hD hZz ⊢
  have hA : ∀ q : Nat, s.heap.size ≤ q → A q := fun q h => by rw [← hAe]; exact Or.inr h
  have hS : va_S A s.heap s.heap [] := va_S.rf
  have hDw := hD
  have hP : va_P (dC, dI) clB (dw h dr db lg fa fr fb ka pg pn us di bt dk lf wn rd en fl (nI q)) s.heap := hP
  have hl := lv_entry ([.ref h]) (n := 2) (Nat.le_of_ble_eq_true rfl)
  rw [lg_entry_eq]
  generalize (lg_sl ([.ref h]) ++ List.replicate (2 - (lg_sl ([.ref h])).length) Slot.unset).toArray = ls at hl ⊢
  have hl : lv_has ls 2 [(0, .ref h)] := hl
  refine lv_aload_n hx hb dB_findFrame_0 rfl (lv_at hl 0 rfl) ?_
  refine lv_iconst (v := (-1)) hx hb dB_findFrame_1 (by decide) ?_
  refine vp_callSi (va_Run.run (va_runV (As := [.int (-1)]) (rest := []) ⟨hx, hb, hml, hown, hts⟩ (c_B_frameWith l dC dI ka h dr db lg fa fr fb pg pn us di bt dk lf wn rd en fl (nI q) (-1) (-1) (Or.inl ⟨rfl, hne⟩)) (cwV 1 hts (tw_V wi_291 wi_293 wi_2 wi_24 wi_294) rfl rfl rfl (by decide +kernel) ⟨Nat.le_of_ble_eq_true rfl, Nat.le_of_ble_eq_true rfl⟩) ⟨fun a U g mk q => ⟨q.1, tk_E.call q.2.1, q.2.2⟩, va_recv hK hP (ci := 3) (q0 := 0) rfl rfl, fun U hU hW => ⟨rfl, tk_E.warm hW hE, by rw [hU]; exact hP⟩⟩ rfl rfl hl.1 rfl (lv_room (Nat.le_of_ble_eq_true rfl)) dB_findFrame_2 ⟨Nat.zero_le _, Nat.zero_le _⟩)) (fun r_1 er_1 => ?_)
  subst er_1
  refine lv_istore_n (lv' := [(1, .int (-1)), (0, .ref h)]) hx hb dB_findFrame_5 rfl hl (by decide) rfl (fun ls hl => ?_)
  refine lv_iload_n hx hb dB_findFrame_6 rfl (lv_at hl 0 rfl) ?_
  refine lv_iconst (v := (-1)) hx hb dB_findFrame_7 (by decide) ?_
  refine lv_icmp_eq (tgt := 13) hx hb dB_findFrame_8 (by decide) (fun c_2 => ?_) (fun c_2 => ?_)
  · refine lv_aload_n hx hb dB_findFrame_13 rfl (lv_at hl 1 rfl) ?_
    have hFc := tk_freeW hD hS hA
    refine va_calli (va_runV (As := []) (rest := []) ⟨hx, hb, hml, hown, hts⟩ (c_B_frameByHand2 l dC dI ka _ h dr db lg fa fr fb pg pn us di bt dk lf wn rd en fl q f0 u1 hq0 hHB) (cwV 0 hts (tw_V wi_342 wi_344 wi_5 wi_24 wi_345) rfl rfl rfl (by decide +kernel) ⟨Nat.le_of_ble_eq_true rfl, Nat.le_of_ble_eq_true rfl⟩) ⟨fun a U g mk q => ⟨q.1, q.2.1, tk_E.call q.2.2.1, q.2.2.2⟩, va_recv hK hP (ci := 3) (q0 := 0) rfl rfl, fun U hU hW => ⟨rfl, by rw [hU], tk_E.warm hW hE, by rw [hU]; exact hP, hD.weaken (fun _ _ _ _ => trivial)⟩⟩ rfl rfl hl.1 rfl (lv_room (Nat.le_of_ble_eq_true rfl)) dB_findFrame_14 ⟨Nat.zero_le _, Nat.zero_le _⟩) hS (fun q _ h => hFc q h) hFc (fun r_4 u_3 t H1 locs ht hvm hw hB hz1 hk1 hS => ?_)
    have hB : va_P (dC, dI) clB (dw h dr db lg fa fr fb ka pg pn u1 di bt dk lf wn rd en fl (nI (nxt f0))) H1 := by rw [← ht]; exact hB
    obtain ⟨hP, hD⟩ := (⟨hB, dw_D hDw⟩ : va_P (dC, dI) clB (dw h dr db lg fa fr fb ka pg pn u1 di bt dk lf wn rd en fl (nI (nxt f0))) H1 ∧ va_D A (dw h dr db lg fa fr fb ka pg pn u1 di bt dk lf wn rd en fl (nI (nxt f0))))
    generalize H1 = H at hP hS ⊢
    have hP : va_P (dC, dI) clB (dw h dr db lg fa fr fb ka pg pn u1 di bt dk lf wn rd en fl (nI (nxt f0))) H := hP
    have hD : va_D A (dw h dr db lg fa fr fb ka pg pn u1 di bt dk lf wn rd en fl (nI (nxt f0))) := dw_D hDw
    subst hw
    refine lv_istore_n (lv' := [(1, .int (nI f0)), (0, .ref h)]) hx hb dB_findFrame_17 rfl hl (by decide) rfl (fun ls hl => ?_)
    refine lv_aload_n hx hb dB_findFrame_18 rfl (lv_at hl 1 rfl) ?_
    refine va_get (D := (dC, dI)) (ci := 3) (v := .ref fa) (C := RB) (T := TB) (N := 4) hx hb hts (inC inB) hown hK hP 0 rfl rfl 2 (by decide) (hq _ wi_116) (fun _ h9 => h9) rfl dB_findFrame_19 ?_
    refine lv_iload_n hx hb dB_findFrame_22 rfl (lv_at hl 0 rfl) ?_
    refine tk_aald (n := f0) (y := fr f0) hx hb hK hP 4 1 rfl rfl rfl hf0 (by decide) rfl dB_findFrame_23 ?_
    refine va_getN (D := (dC, dI)) (ci := 1) (v := .int (di f0)) (C := RF) (T := TF) (N := 5) hx hb hts (inC inF) hown hK hP (5 + f0) (dw_fr hf0) rfl 4 (by decide) (va_Nw.use rfl (hN _ ns_12)) (fun _ h9 => h9) rfl dB_findFrame_24 ?_
    refine lv_if_eq (tgt := 40) hx hb dB_findFrame_27 (by decide) (fun c_5 => ?_) (fun c_5 => ?_)
    · exact absurd c_5 hd0
    · refine lv_aload_n hx hb dB_findFrame_30 rfl (lv_at hl 1 rfl) ?_
      refine lv_aload_n hx hb dB_findFrame_31 rfl (lv_at hl 1 rfl) ?_
      refine va_get (D := (dC, dI)) (ci := 3) (v := .ref fa) (C := RB) (T := TB) (N := 4) hx hb hts (inC inB) hown hK hP 0 rfl rfl 2 (by decide) (hq _ wi_116) (fun _ h9 => h9) rfl dB_findFrame_32 ?_
      refine lv_iload_n hx hb dB_findFrame_35 rfl (lv_at hl 0 rfl) ?_
      refine tk_aald (n := f0) (y := fr f0) hx hb hK hP 4 1 rfl rfl rfl hf0 (by decide) rfl dB_findFrame_36 ?_
      have hFc := tk_freeW hD hS hA
      refine vx_callv (vx_runV (As := [.ref (fr f0)]) (rest := []) ⟨hx, hb, hml, hown, hts⟩ (c_B_writePageOf_cut l hst dC dI ka sa _ h dr db lg fa fr fb pg pn u1 di bt dk lf wn rd en fl (nI (nxt f0)) f0 np mm hf0 hpg hnp hF hm8 hnz h0) (cwV 1 hts (tw_V wi_357 wi_359 wi_6 wi_24 wi_360) rfl rfl rfl (by decide +kernel) ⟨Nat.le_of_ble_eq_true rfl, Nat.le_of_ble_eq_true rfl⟩) ⟨fun a U g mk q => ⟨q.1, q.2.1, tk_E.call q.2.2.1, tk_X.call q.2.2.2.1, tk_Z.call q.2.2.2.2.1, q.2.2.2.2.2⟩, va_recv hK hP (ci := 3) (q0 := 0) rfl rfl, fun U hU hW => ⟨rfl, by rw [hU], tk_E.warm hW hE, tk_X.warm hW hXx, tk_Z.at hZz hS hU hW hFc, by rw [hU]; exact hP, hD.weaken (fun _ _ _ _ => trivial)⟩⟩ rfl rfl hl.1 rfl (lv_room (Nat.le_of_ble_eq_true rfl)) dB_findFrame_37 ⟨Nat.le_refl _, Nat.le_refl _⟩) hS (fun q _ h => hFc q h) hFc (fun q _ h => hFc q h) (fun E9 ce q9 u t H1 locs ht hvm hpx hBX hz1 hk1 hS hce hcv hcl => ?_) (fun u t H1 locs ht hvm hw hB hz1 hk1 hS => hw.elim)
      obtain ⟨rfl, hB⟩ := hBX
      exact vx_out (fun z hz => (hT z hz).elim) hlocks hce hcv hcl (fun t9 ht9 hvm9 => ⟨(), trivial, ⟨rfl, by show va_P _ _ _ t9.heap; rw [ht9.trans ht.symm]; exact hB⟩, hS.F ht9⟩) hS.2.2 (Nat.le_of_ble_eq_true rfl) (Nat.le_of_ble_eq_true rfl)
  · exact absurd c_2 (by decide)
end
section
/-- a frame is found, nothing cut: which one, and the state behind it -/
def ffOK (pg pn us di : Nat → Int32) (bt : Nat → Nat → Int32) (dk : Nat → Int32) (lf wn en fl : Int32) (q f0 : Nat) (us' di' : Nat → Int32) (bt' : Nat → Nat → Int32) (dk' : Nat → Int32) (lf' wn' en' fl' hd' : Int32) : Prop :=
  f0 < 12 ∧ ((fwR pg (-1) (nI f0) ∧ us' = us ∧ hd' = nI q ∧ di' = di ∧ bt' = bt ∧ dk' = dk ∧ lf' = lf ∧ wn' = wn ∧ en' = en ∧ fl' = fl) ∨ ((∀ i, i < 12 → pg i ≠ -1) ∧ hbU pn 48 (us, q) = (us', f0) ∧ hd' = nI (nxt f0) ∧ ((di f0 = 0 ∧ di' = di ∧ bt' = bt ∧ dk' = dk ∧ lf' = lf ∧ wn' = wn ∧ en' = en ∧ fl' = fl) ∨ (¬ di f0 = 0 ∧ ∃ np, pg f0 = nI np ∧ np < 192 ∧ sb_Fit (bt f0) ∧ (∀ z, z < 8 → ¬ lfA lf z = 0) ∧ di' = upd di f0 0 ∧ bt' = va_up bt f0 (psB (bt f0) (tb2 (bt f0) 0 + 1)) ∧ dk' = wrD dk (va_up bt f0 (psB (bt f0) (tb2 (bt f0) 0 + 1)) f0) np 8 ∧ lf' = lfA lf 8 ∧ wn' = wn + nI 8 ∧ en' = (if en < plB (bt f0) then plB (bt f0) else en) ∧ fl' = (if en < plB (bt f0) then fl + 1 else fl)))))

theorem c_B_findFrame (l : Launch) (dC : Nat → ClassId) (dI : Nat → Nat → Nat) (ka : Nat → ClassId) (sz : Nat) (h dr db lg fa : Nat) (fr fb : Nat → Nat) (pg pn us di : Nat → Int32) (bt : Nat → Nat → Int32) (dk : Nat → Int32) (lf wn rd en fl : Int32) (q : Nat) (f0 : Nat) (us' di' : Nat → Int32) (bt' : Nat → Nat → Int32) (dk' : Nat → Int32) (lf' wn' en' fl' hd' : Int32) (hq0 : q < 12) (hff : ffOK pg pn us di bt dk lf wn en fl q f0 us' di' bt' dk' lf' wn' en' fl' hd') : Met l yB_findFrame wB_findFrame ({ frames := 3, cells := 0, slots := 0, locals := 130 }) (va_Pc [.ref h] (fun U => U.heap.size = sz ∧ tk_E dC dI ka U ∧ va_P (dC, dI) clB (dw h dr db lg fa fr fb ka pg pn us di bt dk lf wn rd en fl (nI q)) U.heap ∧ va_D (fun _ => True) (dw h dr db lg fa fr fb ka pg pn us di bt dk lf wn rd en fl (nI q)))) (va_Qi (fun (r : Int32) (_ : Unit) => r = nI f0) (fun _ t => va_P (dC, dI) clB (dw h dr db lg fa fr fb ka pg pn us' di' bt' dk' lf' wn' rd en' fl' hd') t.heap) (va_A (dw h dr db lg fa fr fb ka pg pn us di bt dk lf wn rd en fl (nI q)) sz)) 0 0 (va_A (dw h dr db lg fa fr fb ka pg pn us di bt dk lf wn rd en fl (nI q)) sz) := by
  obtain ⟨hf0, ⟨hfw, e1, e2, e3, e4, e5, e6, e7, e8, e9⟩ | ⟨hne, hHB, e2, ⟨hd0, e3, e4, e5, e6, e7, e8, e9⟩ | ⟨hd0, np, hpg, hnp, hF, hok, e3, e4, e5, e6, e7, e8, e9⟩⟩⟩ := hff
  · rw [e1, e2, e3, e4, e5, e6, e7, e8, e9]
    exact c_B_findFrame_e l dC dI ka sz h dr db lg fa fr fb pg pn us di bt dk lf wn rd en fl q f0 hf0 hfw
  · rw [e2, e3, e4, e5, e6, e7, e8, e9]
    exact c_B_findFrame_c l dC dI ka sz h dr db lg fa fr fb pg pn us di bt dk lf wn rd en fl q f0 us' hne hq0 hHB hf0 hd0
  · rw [e2, e3, e4, e5, e6, e7, e8, e9]
    exact c_B_findFrame_d l dC dI ka sz h dr db lg fa fr fb pg pn us di bt dk lf wn rd en fl q f0 np us' hne hq0 hHB hf0 hd0 hpg hnp hF hok

set_option maxHeartbeats 4000000 in
set_option maxRecDepth 100000 in
theorem c_B_pin_h (l : Launch) (dC : Nat → ClassId) (dI : Nat → Nat → Nat) (ka : Nat → ClassId) (sz : Nat) (h dr db lg fa : Nat) (fr fb : Nat → Nat) (pg pn us di : Nat → Int32) (bt : Nat → Nat → Int32) (dk : Nat → Int32) (lf wn rd en fl hd : Int32) (x : Int32) (n j : Nat) (ex : x = nI n) (hn : n < 192) (hj : j < 12) (hfw : fwR pg x (nI j)) : Met l yB_pin wB_pin ({ frames := 2, cells := 0, slots := 0, locals := 34 }) (va_Pc [.ref h, .int x] (fun U => U.heap.size = sz ∧ tk_E dC dI ka U ∧ va_P (dC, dI) clB (dw h dr db lg fa fr fb ka pg pn us di bt dk lf wn rd en fl hd) U.heap ∧ va_D (fun _ => True) (dw h dr db lg fa fr fb ka pg pn us di bt dk lf wn rd en fl hd))) (va_Qi (fun (r : Int32) (_ : Unit) => r = nI j) (fun _ t => va_P (dC, dI) clB (dw h dr db lg fa fr fb ka pg (upd pn j (pn j + 1)) (upd us j (if 3 < us j + 1 then 3 else us j + 1)) di bt dk lf wn rd en fl hd) t.heap) (va_A (dw h dr db lg fa fr fb ka pg pn us di bt dk lf wn rd en fl hd) sz)) 0 0 (va_A (dw h dr db lg fa fr fb ka pg pn us di bt dk lf wn rd en fl hd) sz) := by
  refine Met.ofW (cc := cB_pin) (maxL := 4) (ret := (some .int)) (by decide) rfl ?_
  intro p e s m args below meth c s₁ B hml hv
  obtain ⟨rfl, hsz, hE, hP, hD0⟩ := hv
  have hx := B.exec
  have hb := B.bytes
  have hr := B.returns
  have hts := atoms_spec (ws := wB_pin) B.pre
  have hq : ∀ w ∈ lwg, w.before _ s = true := fun w h => hts w (List.mem_cons_of_mem _ h)
  have hown : s.vm.findClass RB = some m.cls := findClass_of_methodNamed B.named
  have hlocks := B.notSynchronized
  have hK := hE.1
  have hN := hE.2
  subst hsz
  have hD := hD0.self (sz := s.heap.size)
  generalize hAe : va_A (dw h dr db lg fa fr fb ka pg pn us di bt dk lf wn rd en fl hd) s.heap.size = A at hD ⊢
  have hA : ∀ q : Nat, s.heap.size ≤ q → A q := fun q h => by rw [← hAe]; exact Or.inr h
  have hS : va_S A s.heap s.heap [] := va_S.rf
  have hDw := hD
  have hP : va_P (dC, dI) clB (dw h dr db lg fa fr fb ka pg pn us di bt dk lf wn rd en fl hd) s.heap := hP
  have hl := lv_entry ([.ref h, .int x]) (n := 4) (Nat.le_of_ble_eq_true rfl)
  rw [lg_entry_eq]
  generalize (lg_sl ([.ref h, .int x]) ++ List.replicate (4 - (lg_sl ([.ref h, .int x])).length) Slot.unset).toArray = ls at hl ⊢
  have hl : lv_has ls 4 [(0, .ref h), (1, .int x)] := hl
  refine lv_iload_n hx hb dB_pin_0 rfl (lv_at hl 1 rfl) ?_
  refine vp_callSi (va_Run.run (va_runS (As := [.int x]) (rest := []) ⟨hx, hb, hml, hown, hts⟩ (c_B_isPage l dC dI ka x) (cwS 1 hts (tw_S wi_184 wi_185 wi_24 wi_186) rfl rfl rfl (by decide +kernel) ⟨Nat.le_of_ble_eq_true rfl, Nat.le_of_ble_eq_true rfl⟩) ⟨fun a U g mk q => ⟨q.1, tk_E.call q.2.1, q.2.2⟩, fun U hU hW => ⟨rfl, tk_E.warm hW hE, by rw [hU]; exact (fun k q h => by simp at h)⟩⟩ rfl rfl hl.1 rfl (lv_room (Nat.le_of_ble_eq_true rfl)) dB_pin_1 ⟨Nat.zero_le _, Nat.zero_le _⟩)) (fun r_1 er_1 => ?_)
  replace er_1 := er_1.trans (tk_is1 (N := 192) ex hn (by decide))
  subst er_1
  refine lv_if_ne (tgt := 17) hx hb dB_pin_4 (by decide) (fun c_2 => ?_) (fun c_2 => ?_)
  · refine lv_aload_n hx hb dB_pin_17 rfl (lv_at hl 0 rfl) ?_
    refine lv_iload_n hx hb dB_pin_18 rfl (lv_at hl 1 rfl) ?_
    refine vp_callSi (va_Run.run (va_runV (As := [.int x]) (rest := []) ⟨hx, hb, hml, hown, hts⟩ (c_B_frameWith l dC dI ka h dr db lg fa fr fb pg pn us di bt dk lf wn rd en fl hd x (nI j) hfw) (cwV 1 hts (tw_V wi_291 wi_293 wi_2 wi_24 wi_294) rfl rfl rfl (by decide +kernel) ⟨Nat.le_of_ble_eq_true rfl, Nat.le_of_ble_eq_true rfl⟩) ⟨fun a U g mk q => ⟨q.1, tk_E.call q.2.1, q.2.2⟩, va_recv hK hP (ci := 3) (q0 := 0) rfl rfl, fun U hU hW => ⟨rfl, tk_E.warm hW hE, by rw [hU]; exact hP⟩⟩ rfl rfl hl.1 rfl (lv_room (Nat.le_of_ble_eq_true rfl)) dB_pin_19 ⟨Nat.zero_le _, Nat.zero_le _⟩)) (fun r_3 er_3 => ?_)
    subst er_3
    refine lv_istore_n (lv' := [(2, .int (nI j)), (0, .ref h), (1, .int x)]) hx hb dB_pin_22 rfl hl (by decide) rfl (fun ls hl => ?_)
    refine lv_iload_n hx hb dB_pin_23 rfl (lv_at hl 0 rfl) ?_
    refine lv_iconst (v := (-1)) hx hb dB_pin_24 (by decide) ?_
    refine lv_icmp_eq (tgt := 39) hx hb dB_pin_25 (by decide) (fun c_4 => ?_) (fun c_4 => ?_)
    · exact absurd (c_4 ▸ nI_pos (n := j) (by omega)) (by decide)
    · refine lv_aload_n hx hb dB_pin_28 rfl (lv_at hl 1 rfl) ?_
      refine va_get (D := (dC, dI)) (ci := 3) (v := .ref fa) (C := RB) (T := TB) (N := 4) hx hb hts (inC inB) hown hK hP 0 rfl rfl 2 (by decide) (hq _ wi_116) (fun _ h9 => h9) rfl dB_pin_29 ?_
      refine lv_iload_n hx hb dB_pin_32 rfl (lv_at hl 0 rfl) ?_
      refine tk_aald (n := j) (y := fr j) hx hb hK hP 4 1 rfl rfl rfl hj (by decide) rfl dB_pin_33 ?_
      have hFc := tk_free1 (k := 5 + j) hD hS hA (dw_fr hj)
      refine va_callv (va_runV (As := []) (rest := []) ⟨hx, hb, hml, hown, hts⟩ (c_F_addPin l dC dI ka _ (fr j) (fb j) (pg j) (pn j) (us j) (di j)) (cwV 0 hts (tw_V wi_295 wi_296 wi_297 wi_27 wi_298) rfl rfl rfl (by decide +kernel) ⟨Nat.le_of_ble_eq_true rfl, Nat.le_of_ble_eq_true rfl⟩) ⟨fun a U g mk q => ⟨q.1, q.2.1, tk_E.call q.2.2.1, q.2.2.2⟩, va_recv hK hP (ci := 1) (q0 := (5 + j)) rfl (dw_fr hj), fun U hU hW => ⟨rfl, by rw [hU], tk_E.warm hW hE, by rw [hU]; exact (tk_one hP (k := 5 + j) (dw_fr hj)), tk_done⟩⟩ rfl rfl hl.1 rfl (lv_room (Nat.le_of_ble_eq_true rfl)) dB_pin_34 ⟨Nat.zero_le _, Nat.zero_le _⟩) hS (fun q _ h => hFc q h) hFc (fun u_5 t H1 locs ht hvm hw hB hz1 hk1 hS => ?_)
      have hB : va_P (dC, dI) clB [((fr j), .inr (1, [.ref (fb j), .int (pg j), .int ((pn j) + 1), .int (if 3 < (us j) + 1 then 3 else (us j) + 1), .int (di j)]))] H1 := by rw [← ht]; exact hB
      obtain ⟨hP, hD⟩ := tk_join1 (k := 5 + j) hP hD (dw_fr hj) hk1 hB
      generalize H1 = H at hP hS ⊢
      have hP : va_P (dC, dI) clB (dw h dr db lg fa fr fb ka pg (upd pn j ((pn j) + 1)) (upd us j (if 3 < (us j) + 1 then 3 else (us j) + 1)) di bt dk lf wn rd en fl hd) H := (by rw [← dw_set_pu hj]; exact hP)
      have hD : va_D A (dw h dr db lg fa fr fb ka pg (upd pn j ((pn j) + 1)) (upd us j (if 3 < (us j) + 1 then 3 else (us j) + 1)) di bt dk lf wn rd en fl hd) := dw_D hDw
      refine lv_iload_n hx hb dB_pin_37 rfl (lv_at hl 0 rfl) ?_
      exact W.iret (v := (nI j)) hx hb hr (fun t ht hW => ⟨⟨(nI j), (), rfl, rfl, by show va_P _ _ _ t.heap; rw [ht]; exact hP⟩, hS.F ht⟩) hS.2.2 dB_pin_38
  · exact absurd c_2 (by decide)

set_option maxHeartbeats 4000000 in
set_option maxRecDepth 100000 in
theorem c_B_pin_in (l : Launch) (dC : Nat → ClassId) (dI : Nat → Nat → Nat) (ka : Nat → ClassId) (sz : Nat) (h dr db lg fa : Nat) (fr fb : Nat → Nat) (pg pn us di : Nat → Int32) (bt : Nat → Nat → Int32) (dk : Nat → Int32) (lf wn rd en fl : Int32) (q : Nat) (x : Int32) (n f0 : Nat) (us' di' : Nat → Int32) (bt' : Nat → Nat → Int32) (dk' : Nat → Int32) (lf' wn' en' fl' hd' : Int32) (ex : x = nI n) (hn : n < 192) (hno : ∀ i, i < 12 → pg i ≠ x) (hap : ahR pn 0) (hnt : tb2 dk (n * 512) = tb2 dk (n * 512 + 510)) (hFd : sb_Fit dk') (hq0 : q < 12) (hff : ffOK pg pn us di bt dk lf wn en fl q f0 us' di' bt' dk' lf' wn' en' fl' hd') : Met l yB_pin wB_pin ({ frames := 4, cells := 0, slots := 0, locals := 151 }) (va_Pc [.ref h, .int x] (fun U => U.heap.size = sz ∧ tk_E dC dI ka U ∧ va_P (dC, dI) clB (dw h dr db lg fa fr fb ka pg pn us di bt dk lf wn rd en fl (nI q)) U.heap ∧ va_D (fun _ => True) (dw h dr db lg fa fr fb ka pg pn us di bt dk lf wn rd en fl (nI q)))) (va_Qi (fun (r : Int32) (_ : Unit) => r = nI f0) (fun _ t => va_P (dC, dI) clB (dw h dr db lg fa fr fb ka (upd pg f0 x) (upd pn f0 1) (upd us' f0 1) (upd di' f0 0) (va_up bt' f0 (va_cpy dk' (bt' f0) (n * 512) 0 512)) dk' lf' wn' (rd + 1) en' fl' hd') t.heap) (va_A (dw h dr db lg fa fr fb ka pg pn us di bt dk lf wn rd en fl (nI q)) sz)) 0 0 (va_A (dw h dr db lg fa fr fb ka pg pn us di bt dk lf wn rd en fl (nI q)) sz) := by
  refine Met.ofW (cc := cB_pin) (maxL := 4) (ret := (some .int)) (by decide) rfl ?_
  intro p e s m args below meth c s₁ B hml hv
  obtain ⟨rfl, hsz, hE, hP, hD0⟩ := hv
  have hx := B.exec
  have hb := B.bytes
  have hr := B.returns
  have hts := atoms_spec (ws := wB_pin) B.pre
  have hq : ∀ w ∈ lwg, w.before _ s = true := fun w h => hts w (List.mem_cons_of_mem _ h)
  have hown : s.vm.findClass RB = some m.cls := findClass_of_methodNamed B.named
  have hlocks := B.notSynchronized
  have hK := hE.1
  have hN := hE.2
  subst hsz
  have hD := hD0.self (sz := s.heap.size)
  generalize hAe : va_A (dw h dr db lg fa fr fb ka pg pn us di bt dk lf wn rd en fl (nI q)) s.heap.size = A at hD ⊢
  have hA : ∀ q : Nat, s.heap.size ≤ q → A q := fun q h => by rw [← hAe]; exact Or.inr h
  have hS : va_S A s.heap s.heap [] := va_S.rf
  have hDw := hD
  have hP : va_P (dC, dI) clB (dw h dr db lg fa fr fb ka pg pn us di bt dk lf wn rd en fl (nI q)) s.heap := hP
  have hl := lv_entry ([.ref h, .int x]) (n := 4) (Nat.le_of_ble_eq_true rfl)
  rw [lg_entry_eq]
  generalize (lg_sl ([.ref h, .int x]) ++ List.replicate (4 - (lg_sl ([.ref h, .int x])).length) Slot.unset).toArray = ls at hl ⊢
  have hl : lv_has ls 4 [(0, .ref h), (1, .int x)] := hl
  refine lv_iload_n hx hb dB_pin_0 rfl (lv_at hl 1 rfl) ?_
  refine vp_callSi (va_Run.run (va_runS (As := [.int x]) (rest := []) ⟨hx, hb, hml, hown, hts⟩ (c_B_isPage l dC dI ka x) (cwS 1 hts (tw_S wi_184 wi_185 wi_24 wi_186) rfl rfl rfl (by decide +kernel) ⟨Nat.le_of_ble_eq_true rfl, Nat.le_of_ble_eq_true rfl⟩) ⟨fun a U g mk q => ⟨q.1, tk_E.call q.2.1, q.2.2⟩, fun U hU hW => ⟨rfl, tk_E.warm hW hE, by rw [hU]; exact (fun k q h => by simp at h)⟩⟩ rfl rfl hl.1 rfl (lv_room (Nat.le_of_ble_eq_true rfl)) dB_pin_1 ⟨Nat.zero_le _, Nat.zero_le _⟩)) (fun r_1 er_1 => ?_)
  replace er_1 := er_1.trans (tk_is1 (N := 192) ex hn (by decide))
  subst er_1
  refine lv_if_ne (tgt := 17) hx hb dB_pin_4 (by decide) (fun c_2 => ?_) (fun c_2 => ?_)
  · refine lv_aload_n hx hb dB_pin_17 rfl (lv_at hl 0 rfl) ?_
    refine lv_iload_n hx hb dB_pin_18 rfl (lv_at hl 1 rfl) ?_
    refine vp_callSi (va_Run.run (va_runV (As := [.int x]) (rest := []) ⟨hx, hb, hml, hown, hts⟩ (c_B_frameWith l dC dI ka h dr db lg fa fr fb pg pn us di bt dk lf wn rd en fl (nI q) x (-1) (Or.inl ⟨rfl, hno⟩)) (cwV 1 hts (tw_V wi_291 wi_293 wi_2 wi_24 wi_294) rfl rfl rfl (by decide +kernel) ⟨Nat.le_of_ble_eq_true rfl, Nat.le_of_ble_eq_true rfl⟩) ⟨fun a U g mk q => ⟨q.1, tk_E.call q.2.1, q.2.2⟩, va_recv hK hP (ci := 3) (q0 := 0) rfl rfl, fun U hU hW => ⟨rfl, tk_E.warm hW hE, by rw [hU]; exact hP⟩⟩ rfl rfl hl.1 rfl (lv_room (Nat.le_of_ble_eq_true rfl)) dB_pin_19 ⟨Nat.zero_le _, Nat.zero_le _⟩)) (fun r_3 er_3 => ?_)
    subst er_3
    refine lv_istore_n (lv' := [(2, .int (-1)), (0, .ref h), (1, .int x)]) hx hb dB_pin_22 rfl hl (by decide) rfl (fun ls hl => ?_)
    refine lv_iload_n hx hb dB_pin_23 rfl (lv_at hl 0 rfl) ?_
    refine lv_iconst (v := (-1)) hx hb dB_pin_24 (by decide) ?_
    refine lv_icmp_eq (tgt := 39) hx hb dB_pin_25 (by decide) (fun c_4 => ?_) (fun c_4 => ?_)
    · refine lv_aload_n hx hb dB_pin_39 rfl (lv_at hl 1 rfl) ?_
      refine vp_callSi (va_Run.run (va_runV (As := []) (rest := []) ⟨hx, hb, hml, hown, hts⟩ (c_B_allHavePins l dC dI ka h dr db lg fa fr fb pg pn us di bt dk lf wn rd en fl (nI q) 0 hap) (cwV 0 hts (tw_V wi_302 wi_304 wi_3 wi_24 wi_305) rfl rfl rfl (by decide +kernel) ⟨Nat.le_of_ble_eq_true rfl, Nat.le_of_ble_eq_true rfl⟩) ⟨fun a U g mk q => ⟨q.1, tk_E.call q.2.1, q.2.2⟩, va_recv hK hP (ci := 3) (q0 := 0) rfl rfl, fun U hU hW => ⟨rfl, tk_E.warm hW hE, by rw [hU]; exact hP⟩⟩ rfl rfl hl.1 rfl (lv_room (Nat.le_of_ble_eq_true rfl)) dB_pin_40 ⟨Nat.zero_le _, Nat.zero_le _⟩)) (fun r_5 er_5 => ?_)
      subst er_5
      refine lv_if_eq (tgt := 56) hx hb dB_pin_43 (by decide) (fun c_6 => ?_) (fun c_6 => ?_)
      · refine lv_aload_n hx hb dB_pin_56 rfl (lv_at hl 1 rfl) ?_
        refine va_get (D := (dC, dI)) (ci := 3) (v := .ref dr) (C := RB) (T := TB) (N := 4) hx hb hts (inC inB) hown hK hP 0 rfl rfl 0 (by decide) (hq _ wi_114) (fun _ h9 => h9) rfl dB_pin_57 ?_
        refine lv_iload_n hx hb dB_pin_60 rfl (lv_at hl 2 rfl) ?_
        refine vp_callSi (va_Run.run (va_runV (As := [.int x]) (rest := []) ⟨hx, hb, hml, hown, hts⟩ (c_D_isTorn l dC dI ka dr db lf wn rd dk x n ex hn) (cwV 1 hts (tw_V wi_195 wi_196 wi_197 wi_25 wi_198) rfl rfl rfl (by decide +kernel) ⟨Nat.le_of_ble_eq_true rfl, Nat.le_of_ble_eq_true rfl⟩) ⟨fun a U g mk q => ⟨q.1, tk_E.call q.2.1, q.2.2⟩, va_recv hK hP (ci := 0) (q0 := 1) rfl rfl, fun U hU hW => ⟨rfl, tk_E.warm hW hE, by rw [hU]; exact (tk_two hP (k := 1) (k' := 2) rfl rfl)⟩⟩ rfl rfl hl.1 rfl (lv_room (Nat.le_of_ble_eq_true rfl)) dB_pin_61 ⟨Nat.zero_le _, Nat.zero_le _⟩)) (fun r_7 er_7 => ?_)
        replace er_7 := er_7.trans (if_pos hnt)
        subst er_7
        refine lv_if_eq (tgt := 77) hx hb dB_pin_64 (by decide) (fun c_8 => ?_) (fun c_8 => ?_)
        · have hf0 := hff.1
          refine lv_aload_n hx hb dB_pin_77 rfl (lv_at hl 1 rfl) ?_
          have hFc := tk_freeW hD hS hA
          refine va_calli (va_runV (As := []) (rest := []) ⟨hx, hb, hml, hown, hts⟩ (c_B_findFrame l dC dI ka _ h dr db lg fa fr fb pg pn us di bt dk lf wn rd en fl q f0 us' di' bt' dk' lf' wn' en' fl' hd' hq0 hff) (cwV 0 hts (tw_V wi_338 wi_340 wi_4 wi_24 wi_341) rfl rfl rfl (by decide +kernel) ⟨Nat.le_of_ble_eq_true rfl, Nat.le_of_ble_eq_true rfl⟩) ⟨fun a U g mk q => ⟨q.1, q.2.1, tk_E.call q.2.2.1, q.2.2.2⟩, va_recv hK hP (ci := 3) (q0 := 0) rfl rfl, fun U hU hW => ⟨rfl, by rw [hU], tk_E.warm hW hE, by rw [hU]; exact hP, hD.weaken (fun _ _ _ _ => trivial)⟩⟩ rfl rfl hl.1 rfl (lv_room (Nat.le_of_ble_eq_true rfl)) dB_pin_78 ⟨Nat.zero_le _, Nat.zero_le _⟩) hS (fun q _ h => hFc q h) hFc (fun r_10 u_9 t H1 locs ht hvm hw hB hz1 hk1 hS => ?_)
          have hB : va_P (dC, dI) clB (dw h dr db lg fa fr fb ka pg pn us' di' bt' dk' lf' wn' rd en' fl' hd') H1 := by rw [← ht]; exact hB
          obtain ⟨hP, hD⟩ := (⟨hB, dw_D hDw⟩ : va_P (dC, dI) clB (dw h dr db lg fa fr fb ka pg pn us' di' bt' dk' lf' wn' rd en' fl' hd') H1 ∧ va_D A (dw h dr db lg fa fr fb ka pg pn us' di' bt' dk' lf' wn' rd en' fl' hd'))
          generalize H1 = H at hP hS ⊢
          have hP : va_P (dC, dI) clB (dw h dr db lg fa fr fb ka pg pn us' di' bt' dk' lf' wn' rd en' fl' hd') H := hP
          have hD : va_D A (dw h dr db lg fa fr fb ka pg pn us' di' bt' dk' lf' wn' rd en' fl' hd') := dw_D hDw
          subst hw
          refine lv_istore_n (lv' := [(3, .int (nI f0)), (2, .int (-1)), (0, .ref h), (1, .int x)]) hx hb dB_pin_81 rfl hl (by decide) rfl (fun ls hl => ?_)
          refine lv_aload_n hx hb dB_pin_82 rfl (lv_at hl 2 rfl) ?_
          refine va_get (D := (dC, dI)) (ci := 3) (v := .ref fa) (C := RB) (T := TB) (N := 4) hx hb hts (inC inB) hown hK hP 0 rfl rfl 2 (by decide) (hq _ wi_116) (fun _ h9 => h9) rfl dB_pin_83 ?_
          refine lv_iload_n hx hb dB_pin_86 rfl (lv_at hl 0 rfl) ?_
          refine tk_aald (n := f0) (y := fr f0) hx hb hK hP 4 1 rfl rfl rfl hf0 (by decide) rfl dB_pin_87 ?_
          refine lv_iload_n hx hb dB_pin_88 rfl (lv_at hl 3 rfl) ?_
          have hFc := tk_free1 (k := 5 + f0) hD hS hA (dw_fr hf0)
          refine va_callv (va_runV (As := [.int x]) (rest := []) ⟨hx, hb, hml, hown, hts⟩ (c_F_takePage l dC dI ka _ (fr f0) (fb f0) (pg f0) (pn f0) (us' f0) (di' f0) x) (cwV 1 hts (tw_V wi_405 wi_406 wi_407 wi_27 wi_408) rfl rfl rfl (by decide +kernel) ⟨Nat.le_of_ble_eq_true rfl, Nat.le_of_ble_eq_true rfl⟩) ⟨fun a U g mk q => ⟨q.1, q.2.1, tk_E.call q.2.2.1, q.2.2.2⟩, va_recv hK hP (ci := 1) (q0 := (5 + f0)) rfl (dw_fr hf0), fun U hU hW => ⟨rfl, by rw [hU], tk_E.warm hW hE, by rw [hU]; exact (tk_one hP (k := 5 + f0) (dw_fr hf0)), tk_done⟩⟩ rfl rfl hl.1 rfl (lv_room (Nat.le_of_ble_eq_true rfl)) dB_pin_89 ⟨Nat.zero_le _, Nat.zero_le _⟩) hS (fun q _ h => hFc q h) hFc (fun u_11 t H1 locs ht hvm hw hB hz1 hk1 hS => ?_)
          have hB : va_P (dC, dI) clB [((fr f0), .inr (1, [.ref (fb f0), .int x, .int 1, .int 1, .int 0]))] H1 := by rw [← ht]; exact hB
          obtain ⟨hP, hD⟩ := tk_join1 (k := 5 + f0) hP hD (dw_fr hf0) hk1 hB
          generalize H1 = H at hP hS ⊢
          have hP : va_P (dC, dI) clB (dw h dr db lg fa fr fb ka (upd pg f0 x) (upd pn f0 1) (upd us' f0 1) (upd di' f0 0) bt' dk' lf' wn' rd en' fl' hd') H := (by rw [← dw_set_fr hf0]; exact hP)
          have hD : va_D A (dw h dr db lg fa fr fb ka (upd pg f0 x) (upd pn f0 1) (upd us' f0 1) (upd di' f0 0) bt' dk' lf' wn' rd en' fl' hd') := dw_D hDw
          refine lv_aload_n hx hb dB_pin_92 rfl (lv_at hl 2 rfl) ?_
          refine va_get (D := (dC, dI)) (ci := 3) (v := .ref dr) (C := RB) (T := TB) (N := 4) hx hb hts (inC inB) hown hK hP 0 rfl rfl 0 (by decide) (hq _ wi_114) (fun _ h9 => h9) rfl dB_pin_93 ?_
          refine lv_iload_n hx hb dB_pin_96 rfl (lv_at hl 3 rfl) ?_
          refine lv_aload_n hx hb dB_pin_97 rfl (lv_at hl 2 rfl) ?_
          refine va_get (D := (dC, dI)) (ci := 3) (v := .ref fa) (C := RB) (T := TB) (N := 4) hx hb hts (inC inB) hown hK hP 0 rfl rfl 2 (by decide) (hq _ wi_116) (fun _ h9 => h9) rfl dB_pin_98 ?_
          refine lv_iload_n hx hb dB_pin_101 rfl (lv_at hl 0 rfl) ?_
          refine tk_aald (n := f0) (y := fr f0) hx hb hK hP 4 1 rfl rfl rfl hf0 (by decide) rfl dB_pin_102 ?_
          refine va_getN (D := (dC, dI)) (ci := 1) (v := .ref (fb f0)) (C := RF) (T := TF) (N := 5) hx hb hts (inC inF) hown hK hP (5 + f0) (dw_fr hf0) rfl 0 (by decide) (va_Nw.use rfl (hN _ ns_8)) (fun _ h9 => h9) rfl dB_pin_103 ?_
          have hFc := tk_free3 (k := 1) (k' := 2) (k2 := 17 + f0) hD hS hA rfl rfl (dw_fb hf0)
          refine va_callv (va_runV (As := [.int x, .ref (fb f0)]) (rest := []) ⟨hx, hb, hml, hown, hts⟩ (c_D_readPage l dC dI ka _ dr db (fb f0) lf' wn' rd dk' (bt' f0) x n ex hn hFd) (cwV 2 hts (tw_V wi_409 wi_410 wi_411 wi_25 wi_412) rfl rfl rfl (by decide +kernel) ⟨Nat.le_of_ble_eq_true rfl, Nat.le_of_ble_eq_true rfl⟩) ⟨fun a U g mk q => ⟨q.1, q.2.1, tk_E.call q.2.2.1, q.2.2.2⟩, va_recv hK hP (ci := 0) (q0 := 1) rfl rfl, fun U hU hW => ⟨rfl, by rw [hU], tk_E.warm hW hE, by rw [hU]; exact (tk_three hP (k := 1) (k' := 2) (k2 := 17 + f0) rfl rfl (dw_fb hf0)), (tk_dthree hD (k := 1) (k' := 2) (k2 := 17 + f0) rfl rfl (dw_fb hf0) (by omega) (by omega) (by omega))⟩⟩ rfl rfl hl.1 rfl (lv_room (Nat.le_of_ble_eq_true rfl)) dB_pin_106 ⟨Nat.zero_le _, Nat.zero_le _⟩) hS (fun q _ h => hFc q h) hFc (fun u_13 t H1 locs ht hvm hw hB hz1 hk1 hS => ?_)
          have hB : va_P (dC, dI) clB [(dr, .inr (0, [.ref db, .int lf', .int wn', .int (rd + 1)])), (db, .inl (ka 0, 98304, .inl dk')), ((fb f0), .inl (ka 0, 512, .inl (va_cpy dk' (bt' f0) (n * 512) 0 512)))] H1 := by rw [← ht]; exact hB
          obtain ⟨hP, hD⟩ := tk_join3 (k := 1) (k' := 2) (k2 := 17 + f0) hP hD rfl rfl (dw_fb hf0) (by omega) (by omega) (by omega) hk1 hB
          generalize H1 = H at hP hS ⊢
          have hP : va_P (dC, dI) clB (dw h dr db lg fa fr fb ka (upd pg f0 x) (upd pn f0 1) (upd us' f0 1) (upd di' f0 0) (va_up bt' f0 (va_cpy dk' (bt' f0) (n * 512) 0 512)) dk' lf' wn' (rd + 1) en' fl' hd') H := (by rw [← dw_set_fb hf0]; exact hP)
          have hD : va_D A (dw h dr db lg fa fr fb ka (upd pg f0 x) (upd pn f0 1) (upd us' f0 1) (upd di' f0 0) (va_up bt' f0 (va_cpy dk' (bt' f0) (n * 512) 0 512)) dk' lf' wn' (rd + 1) en' fl' hd') := dw_D hDw
          refine lv_iload_n hx hb dB_pin_109 rfl (lv_at hl 0 rfl) ?_
          exact W.iret (v := (nI f0)) hx hb hr (fun t ht hW => ⟨⟨(nI f0), (), rfl, rfl, by show va_P _ _ _ t.heap; rw [ht]; exact hP⟩, hS.F ht⟩) hS.2.2 dB_pin_110
        · exact absurd c_8 (by decide)
      · exact absurd c_6 (by decide)
    · exact absurd c_4 (by decide)
  · exact absurd c_2 (by decide)
end
section
set_option maxHeartbeats 4000000 in
set_option maxRecDepth 100000 in
theorem c_B_pin_p0 (l : Launch) (hst : l.stackTraces = false) (dC : Nat → ClassId) (dI : Nat → Nat → Nat) (ka : Nat → ClassId) (sa : Nat → Nat) (sz : Nat) (h dr db lg fa : Nat) (fr fb : Nat → Nat) (pg pn us di : Nat → Int32) (bt : Nat → Nat → Int32) (dk : Nat → Int32) (lf wn rd en fl hd : Int32) (x : Int32) (hx0 : x < 0 ∨ nI 192 ≤ x) : vx_Met l yB_pin wB_pin ({ frames := 6, cells := 1, slots := 6, locals := 82 }) (va_Pc [.ref h, .int x] (fun U => U.heap.size = sz ∧ tk_E dC dI ka U ∧ tk_X sa U ∧ tk_Z (va_A (dw h dr db lg fa fr fb ka pg pn us di bt dk lf wn rd en fl hd) sz) U U.heap ∧ va_P (dC, dI) clB (dw h dr db lg fa fr fb ka pg pn us di bt dk lf wn rd en fl hd) U.heap ∧ va_D (fun _ => True) (dw h dr db lg fa fr fb ka pg pn us di bt dk lf wn rd en fl hd))) (va_Qi (fun (_ : Int32) (_ : Unit) => False) (fun _ _ => True) (va_A (dw h dr db lg fa fr fb ka pg pn us di bt dk lf wn rd en fl hd) sz)) (vx_X (fun _ : Unit => True) (fun E _ t => E = xIAE ∧ va_P (dC, dI) clB (dw h dr db lg fa fr fb ka pg pn us di bt dk lf wn rd en fl hd) t.heap) (va_A (dw h dr db lg fa fr fb ka pg pn us di bt dk lf wn rd en fl hd) sz)) 1 6 (va_A (dw h dr db lg fa fr fb ka pg pn us di bt dk lf wn rd en fl hd) sz) := by
  refine vx_ofW (cc := cB_pin) (maxL := 4) (ret := (some .int)) (by decide) rfl ?_
  intro p e s m args below meth c s₁ B hml hT hv
  obtain ⟨rfl, hsz, hE, hXx, hZz, hP, hD0⟩ := hv
  have hx := B.exec
  have hb := B.bytes
  have hr := B.returns
  have hts := atoms_spec (ws := wB_pin) B.pre
  have hq : ∀ w ∈ lwg, w.before _ s = true := fun w h => hts w (List.mem_cons_of_mem _ h)
  have hown : s.vm.findClass RB = some m.cls := findClass_of_methodNamed B.named
  have hlocks := B.notSynchronized
  have hK := hE.1
  have hN := hE.2
  subst hsz
  have hD := hD0.self (sz := s.heap.size)
  generalize hAe : va_A (dw h dr db lg fa fr fb ka pg pn us di bt dk lf wn rd en fl hd) s.heap.size = A at hD hZz ⊢
  have hA : ∀ q : Nat, s.heap.size ≤ q → A q := fun q h => by rw [← hAe]; exact Or.inr h
  have hS : va_S A s.heap s.heap [] := va_S.rf
  have hDw := hD
  have hP : va_P (dC, dI) clB (dw h dr db lg fa fr fb ka pg pn us di bt dk lf wn rd en fl hd) s.heap := hP
  have hl := lv_entry ([.ref h, .int x]) (n := 4) (Nat.le_of_ble_eq_true rfl)
  rw [lg_entry_eq]
  generalize (lg_sl ([.ref h, .int x]) ++ List.replicate (4 - (lg_sl ([.ref h, .int x])).length) Slot.unset).toArray = ls at hl ⊢
  have hl : lv_has ls 4 [(0, .ref h), (1, .int x)] := hl
  refine lv_iload_n hx hb dB_pin_0 rfl (lv_at hl 1 rfl) ?_
  refine vp_callSi (va_Run.run (va_runS (As := [.int x]) (rest := []) ⟨hx, hb, hml, hown, hts⟩ (c_B_isPage l dC dI ka x) (cwS 1 hts (tw_S wi_184 wi_185 wi_24 wi_186) rfl rfl rfl (by decide +kernel) ⟨Nat.le_of_ble_eq_true rfl, Nat.le_of_ble_eq_true rfl⟩) ⟨fun a U g mk q => ⟨q.1, tk_E.call q.2.1, q.2.2⟩, fun U hU hW => ⟨rfl, tk_E.warm hW hE, by rw [hU]; exact (fun k q h => by simp at h)⟩⟩ rfl rfl hl.1 rfl (lv_room (Nat.le_of_ble_eq_true rfl)) dB_pin_1 ⟨Nat.zero_le _, Nat.zero_le _⟩)) (fun r_1 er_1 => ?_)
  replace er_1 := er_1.trans (tk_is0 (N := 192) hx0)
  subst er_1
  refine lv_if_ne (tgt := 17) hx hb dB_pin_4 (by decide) (fun c_2 => ?_) (fun c_2 => ?_)
  · exact absurd c_2 (by decide)
  · refine vx_throwS (names := xUp) (text := "there is no such page") hx hb hst hown (by decide +kernel) (by decide +kernel) (hq _ wi_223) (hq _ wi_32) (hXx.2 0 _ rfl) (tk_at xg_IAE xb_IAE hq hXx.1) xo_IAE hZz.1 hZz.2 hS (hl.1.trans hml.symm) dB_pin_7 dB_pin_10 dB_pin_11 dB_pin_13 dB_pin_16 (fun z hz => (hT z hz).elim) (Nat.le_of_ble_eq_true rfl) (Nat.le_of_ble_eq_true rfl) (Nat.le_of_ble_eq_true rfl) (Nat.le_of_ble_eq_true rfl) hlocks (fun t hvm9 hz9 hk9 => ⟨(), trivial, ⟨rfl, tk_keptP hP hk9⟩, tk_keptF hS hz9 hk9⟩) hS.2.2 (Nat.le_of_ble_eq_true rfl) (Nat.le_of_ble_eq_true rfl)

set_option maxHeartbeats 4000000 in
set_option maxRecDepth 100000 in
theorem c_B_pin_a0 (l : Launch) (hst : l.stackTraces = false) (dC : Nat → ClassId) (dI : Nat → Nat → Nat) (ka : Nat → ClassId) (sa : Nat → Nat) (sz : Nat) (h dr db lg fa : Nat) (fr fb : Nat → Nat) (pg pn us di : Nat → Int32) (bt : Nat → Nat → Int32) (dk : Nat → Int32) (lf wn rd en fl hd : Int32) (x : Int32) (n : Nat) (ex : x = nI n) (hn : n < 192) (hno : ∀ i, i < 12 → pg i ≠ x) (hap : ahR pn 1) : vx_Met l yB_pin wB_pin ({ frames := 6, cells := 1, slots := 6, locals := 82 }) (va_Pc [.ref h, .int x] (fun U => U.heap.size = sz ∧ tk_E dC dI ka U ∧ tk_X sa U ∧ tk_Z (va_A (dw h dr db lg fa fr fb ka pg pn us di bt dk lf wn rd en fl hd) sz) U U.heap ∧ va_P (dC, dI) clB (dw h dr db lg fa fr fb ka pg pn us di bt dk lf wn rd en fl hd) U.heap ∧ va_D (fun _ => True) (dw h dr db lg fa fr fb ka pg pn us di bt dk lf wn rd en fl hd))) (va_Qi (fun (_ : Int32) (_ : Unit) => False) (fun _ _ => True) (va_A (dw h dr db lg fa fr fb ka pg pn us di bt dk lf wn rd en fl hd) sz)) (vx_X (fun _ : Unit => True) (fun E _ t => E = xISE ∧ va_P (dC, dI) clB (dw h dr db lg fa fr fb ka pg pn us di bt dk lf wn rd en fl hd) t.heap) (va_A (dw h dr db lg fa fr fb ka pg pn us di bt dk lf wn rd en fl hd) sz)) 1 6 (va_A (dw h dr db lg fa fr fb ka pg pn us di bt dk lf wn rd en fl hd) sz) := by
  refine vx_ofW (cc := cB_pin) (maxL := 4) (ret := (some .int)) (by decide) rfl ?_
  intro p e s m args below meth c s₁ B hml hT hv
  obtain ⟨rfl, hsz, hE, hXx, hZz, hP, hD0⟩ := hv
  have hx := B.exec
  have hb := B.bytes
  have hr := B.returns
  have hts := atoms_spec (ws := wB_pin) B.pre
  have hq : ∀ w ∈ lwg, w.before _ s = true := fun w h => hts w (List.mem_cons_of_mem _ h)
  have hown : s.vm.findClass RB = some m.cls := findClass_of_methodNamed B.named
  have hlocks := B.notSynchronized
  have hK := hE.1
  have hN := hE.2
  subst hsz
  have hD := hD0.self (sz := s.heap.size)
  generalize hAe : va_A (dw h dr db lg fa fr fb ka pg pn us di bt dk lf wn rd en fl hd) s.heap.size = A at hD hZz ⊢
  have hA : ∀ q : Nat, s.heap.size ≤ q → A q := fun q h => by rw [← hAe]; exact Or.inr h
  have hS : va_S A s.heap s.heap [] := va_S.rf
  have hDw := hD
  have hP : va_P (dC, dI) clB (dw h dr db lg fa fr fb ka pg pn us di bt dk lf wn rd en fl hd) s.heap := hP
  have hl := lv_entry ([.ref h, .int x]) (n := 4) (Nat.le_of_ble_eq_true rfl)
  rw [lg_entry_eq]
  generalize (lg_sl ([.ref h, .int x]) ++ List.replicate (4 - (lg_sl ([.ref h, .int x])).length) Slot.unset).toArray = ls at hl ⊢
  have hl : lv_has ls 4 [(0, .ref h), (1, .int x)] := hl
  refine lv_iload_n hx hb dB_pin_0 rfl (lv_at hl 1 rfl) ?_
  refine vp_callSi (va_Run.run (va_runS (As := [.int x]) (rest := []) ⟨hx, hb, hml, hown, hts⟩ (c_B_isPage l dC dI ka x) (cwS 1 hts (tw_S wi_184 wi_185 wi_24 wi_186) rfl rfl rfl (by decide +kernel) ⟨Nat.le_of_ble_eq_true rfl, Nat.le_of_ble_eq_true rfl⟩) ⟨fun a U g mk q => ⟨q.1, tk_E.call q.2.1, q.2.2⟩, fun U hU hW => ⟨rfl, tk_E.warm hW hE, by rw [hU]; exact (fun k q h => by simp at h)⟩⟩ rfl rfl hl.1 rfl (lv_room (Nat.le_of_ble_eq_true rfl)) dB_pin_1 ⟨Nat.zero_le _, Nat.zero_le _⟩)) (fun r_1 er_1 => ?_)
  replace er_1 := er_1.trans (tk_is1 (N := 192) ex hn (by decide))
  subst er_1
  refine lv_if_ne (tgt := 17) hx hb dB_pin_4 (by decide) (fun c_2 => ?_) (fun c_2 => ?_)
  · refine lv_aload_n hx hb dB_pin_17 rfl (lv_at hl 0 rfl) ?_
    refine lv_iload_n hx hb dB_pin_18 rfl (lv_at hl 1 rfl) ?_
    refine vp_callSi (va_Run.run (va_runV (As := [.int x]) (rest := []) ⟨hx, hb, hml, hown, hts⟩ (c_B_frameWith l dC dI ka h dr db lg fa fr fb pg pn us di bt dk lf wn rd en fl hd x (-1) (Or.inl ⟨rfl, hno⟩)) (cwV 1 hts (tw_V wi_291 wi_293 wi_2 wi_24 wi_294) rfl rfl rfl (by decide +kernel) ⟨Nat.le_of_ble_eq_true rfl, Nat.le_of_ble_eq_true rfl⟩) ⟨fun a U g mk q => ⟨q.1, tk_E.call q.2.1, q.2.2⟩, va_recv hK hP (ci := 3) (q0 := 0) rfl rfl, fun U hU hW => ⟨rfl, tk_E.warm hW hE, by rw [hU]; exact hP⟩⟩ rfl rfl hl.1 rfl (lv_room (Nat.le_of_ble_eq_true rfl)) dB_pin_19 ⟨Nat.zero_le _, Nat.zero_le _⟩)) (fun r_3 er_3 => ?_)
    subst er_3
    refine lv_istore_n (lv' := [(2, .int (-1)), (0, .ref h), (1, .int x)]) hx hb dB_pin_22 rfl hl (by decide) rfl (fun ls hl => ?_)
    refine lv_iload_n hx hb dB_pin_23 rfl (lv_at hl 0 rfl) ?_
    refine lv_iconst (v := (-1)) hx hb dB_pin_24 (by decide) ?_
    refine lv_icmp_eq (tgt := 39) hx hb dB_pin_25 (by decide) (fun c_4 => ?_) (fun c_4 => ?_)
    · refine lv_aload_n hx hb dB_pin_39 rfl (lv_at hl 1 rfl) ?_
      refine vp_callSi (va_Run.run (va_runV (As := []) (rest := []) ⟨hx, hb, hml, hown, hts⟩ (c_B_allHavePins l dC dI ka h dr db lg fa fr fb pg pn us di bt dk lf wn rd en fl hd 1 hap) (cwV 0 hts (tw_V wi_302 wi_304 wi_3 wi_24 wi_305) rfl rfl rfl (by decide +kernel) ⟨Nat.le_of_ble_eq_true rfl, Nat.le_of_ble_eq_true rfl⟩) ⟨fun a U g mk q => ⟨q.1, tk_E.call q.2.1, q.2.2⟩, va_recv hK hP (ci := 3) (q0 := 0) rfl rfl, fun U hU hW => ⟨rfl, tk_E.warm hW hE, by rw [hU]; exact hP⟩⟩ rfl rfl hl.1 rfl (lv_room (Nat.le_of_ble_eq_true rfl)) dB_pin_40 ⟨Nat.zero_le _, Nat.zero_le _⟩)) (fun r_5 er_5 => ?_)
      subst er_5
      refine lv_if_eq (tgt := 56) hx hb dB_pin_43 (by decide) (fun c_6 => ?_) (fun c_6 => ?_)
      · exact absurd c_6 (by decide)
      · refine vx_throwS (names := xUp) (text := "all frames have pins") hx hb hst hown (by decide +kernel) (by decide +kernel) (hq _ wi_306) (hq _ wi_34) (hXx.2 1 _ rfl) (tk_at xg_ISE xb_ISE hq hXx.1) xo_ISE hZz.1 hZz.2 hS (hl.1.trans hml.symm) dB_pin_46 dB_pin_49 dB_pin_50 dB_pin_52 dB_pin_55 (fun z hz => (hT z hz).elim) (Nat.le_of_ble_eq_true rfl) (Nat.le_of_ble_eq_true rfl) (Nat.le_of_ble_eq_true rfl) (Nat.le_of_ble_eq_true rfl) hlocks (fun t hvm9 hz9 hk9 => ⟨(), trivial, ⟨rfl, tk_keptP hP hk9⟩, tk_keptF hS hz9 hk9⟩) hS.2.2 (Nat.le_of_ble_eq_true rfl) (Nat.le_of_ble_eq_true rfl)
    · exact absurd c_4 (by decide)
  · exact absurd c_2 (by decide)

set_option maxHeartbeats 4000000 in
set_option maxRecDepth 100000 in
theorem c_B_pin_x (l : Launch) (hst : l.stackTraces = false) (dC : Nat → ClassId) (dI : Nat → Nat → Nat) (ka : Nat → ClassId) (sa : Nat → Nat) (sz : Nat) (h dr db lg fa : Nat) (fr fb : Nat → Nat) (pg pn us di : Nat → Int32) (bt : Nat → Nat → Int32) (dk : Nat → Int32) (lf wn rd en fl : Int32) (q : Nat) (x : Int32) (n f0 np mm : Nat) (u1 : Nat → Int32) (ex : x = nI n) (hn : n < 192) (hno : ∀ i, i < 12 → pg i ≠ x) (hap : ahR pn 0) (hnt : tb2 dk (n * 512) = tb2 dk (n * 512 + 510)) (hne : ∀ i, i < 12 → pg i ≠ -1) (hq0 : q < 12) (hHB : hbU pn 48 (us, q) = (u1, f0)) (hf0 : f0 < 12) (hd0 : ¬ di f0 = 0) (hpg : pg f0 = nI np) (hnp : np < 192) (hF : sb_Fit (bt f0)) (hm8 : mm < 8) (hnz : ∀ z, z < mm → ¬ lfA lf z = 0) (h0 : lfA lf mm = 0) : vx_Met l yB_pin wB_pin ({ frames := 8, cells := 1, slots := 6, locals := 127 }) (va_Pc [.ref h, .int x] (fun U => U.heap.size = sz ∧ tk_E dC dI ka U ∧ tk_X sa U ∧ tk_Z (va_A (dw h dr db lg fa fr fb ka pg pn us di bt dk lf wn rd en fl (nI q)) sz) U U.heap ∧ va_P (dC, dI) clB (dw h dr db lg fa fr fb ka pg pn us di bt dk lf wn rd en fl (nI q)) U.heap ∧ va_D (fun _ => True) (dw h dr db lg fa fr fb ka pg pn us di bt dk lf wn rd en fl (nI q)))) (va_Qi (fun (_ : Int32) (_ : Unit) => False) (fun _ _ => True) (va_A (dw h dr db lg fa fr fb ka pg pn us di bt dk lf wn rd en fl (nI q)) sz)) (vx_X (fun _ : Unit => True) (fun E _ t => E = xUOE ∧ va_P (dC, dI) clB (dw h dr db lg fa fr fb ka (dropF (-1) pg 12) (dropF 0 pn 12) (dropF 0 u1 12) (dropF 0 di 12) (va_up bt f0 (psB (bt f0) (tb2 (bt f0) 0 + 1))) (wrD dk ((va_up bt f0 (psB (bt f0) (tb2 (bt f0) 0 + 1))) f0) np mm) (-1) (wn + nI mm) rd (if en < (plB (bt f0)) then (plB (bt f0)) else en) (if en < (plB (bt f0)) then fl + 1 else fl) 0) t.heap) (va_A (dw h dr db lg fa fr fb ka pg pn us di bt dk lf wn rd en fl (nI q)) sz)) 1 6 (va_A (dw h dr db lg fa fr fb ka pg pn us di bt dk lf wn rd en fl (nI q)) sz) := by
  refine vx_ofW (cc := cB_pin) (maxL := 4) (ret := (some .int)) (by decide) rfl ?_
  intro p e s m args below meth c s₁ B hml hT hv
  obtain ⟨rfl, hsz, hE, hXx, hZz, hP, hD0⟩ := hv
  have hx := B.exec
  have hb := B.bytes
  have hr := B.returns
  have hts := atoms_spec (ws := wB_pin) B.pre
  have hq : ∀ w ∈ lwg, w.before _ s = true := fun w h => hts w (List.mem_cons_of_mem _ h)
  have hown : s.vm.findClass RB = some m.cls := findClass_of_methodNamed B.named
  have hlocks := B.notSynchronized
  have hK := hE.1
  have hN := hE.2
  subst hsz
  have hD := hD0.self (sz := s.heap.size)
  generalize hAe : va_A (dw h dr db lg fa fr fb ka pg pn us di bt dk lf wn rd en fl (nI q)) s.heap.size = A at hD hZz ⊢
  have hA : ∀ q : Nat, s.heap.size ≤ q → A q := fun q h => by rw [← hAe]; exact Or.inr h
  have hS : va_S A s.heap s.heap [] := va_S.rf
  have hDw := hD
  have hP : va_P (dC, dI) clB (dw h dr db lg fa fr fb ka pg pn us di bt dk lf wn rd en fl (nI q)) s.heap := hP
  have hl := lv_entry ([.ref h, .int x]) (n := 4) (Nat.le_of_ble_eq_true rfl)
  rw [lg_entry_eq]
  generalize (lg_sl ([.ref h, .int x]) ++ List.replicate (4 - (lg_sl ([.ref h, .int x])).length) Slot.unset).toArray = ls at hl ⊢
  have hl : lv_has ls 4 [(0, .ref h), (1, .int x)] := hl
  refine lv_iload_n hx hb dB_pin_0 rfl (lv_at hl 1 rfl) ?_
  refine vp_callSi (va_Run.run (va_runS (As := [.int x]) (rest := []) ⟨hx, hb, hml, hown, hts⟩ (c_B_isPage l dC dI ka x) (cwS 1 hts (tw_S wi_184 wi_185 wi_24 wi_186) rfl rfl rfl (by decide +kernel) ⟨Nat.le_of_ble_eq_true rfl, Nat.le_of_ble_eq_true rfl⟩) ⟨fun a U g mk q => ⟨q.1, tk_E.call q.2.1, q.2.2⟩, fun U hU hW => ⟨rfl, tk_E.warm hW hE, by rw [hU]; exact (fun k q h => by simp at h)⟩⟩ rfl rfl hl.1 rfl (lv_room (Nat.le_of_ble_eq_true rfl)) dB_pin_1 ⟨Nat.zero_le _, Nat.zero_le _⟩)) (fun r_1 er_1 => ?_)
  replace er_1 := er_1.trans (tk_is1 (N := 192) ex hn (by decide))
  subst er_1
  refine lv_if_ne (tgt := 17) hx hb dB_pin_4 (by decide) (fun c_2 => ?_) (fun c_2 => ?_)
  · refine lv_aload_n hx hb dB_pin_17 rfl (lv_at hl 0 rfl) ?_
    refine lv_iload_n hx hb dB_pin_18 rfl (lv_at hl 1 rfl) ?_
    refine vp_callSi (va_Run.run (va_runV (As := [.int x]) (rest := []) ⟨hx, hb, hml, hown, hts⟩ (c_B_frameWith l dC dI ka h dr db lg fa fr fb pg pn us di bt dk lf wn rd en fl (nI q) x (-1) (Or.inl ⟨rfl, hno⟩)) (cwV 1 hts (tw_V wi_291 wi_293 wi_2 wi_24 wi_294) rfl rfl rfl (by decide +kernel) ⟨Nat.le_of_ble_eq_true rfl, Nat.le_of_ble_eq_true rfl⟩) ⟨fun a U g mk q => ⟨q.1, tk_E.call q.2.1, q.2.2⟩, va_recv hK hP (ci := 3) (q0 := 0) rfl rfl, fun U hU hW => ⟨rfl, tk_E.warm hW hE, by rw [hU]; exact hP⟩⟩ rfl rfl hl.1 rfl (lv_room (Nat.le_of_ble_eq_true rfl)) dB_pin_19 ⟨Nat.zero_le _, Nat.zero_le _⟩)) (fun r_3 er_3 => ?_)
    subst er_3
    refine lv_istore_n (lv' := [(2, .int (-1)), (0, .ref h), (1, .int x)]) hx hb dB_pin_22 rfl hl (by decide) rfl (fun ls hl => ?_)
    refine lv_iload_n hx hb dB_pin_23 rfl (lv_at hl 0 rfl) ?_
    refine lv_iconst (v := (-1)) hx hb dB_pin_24 (by decide) ?_
    refine lv_icmp_eq (tgt := 39) hx hb dB_pin_25 (by decide) (fun c_4 => ?_) (fun c_4 => ?_)
    · refine lv_aload_n hx hb dB_pin_39 rfl (lv_at hl 1 rfl) ?_
      refine vp_callSi (va_Run.run (va_runV (As := []) (rest := []) ⟨hx, hb, hml, hown, hts⟩ (c_B_allHavePins l dC dI ka h dr db lg fa fr fb pg pn us di bt dk lf wn rd en fl (nI q) 0 hap) (cwV 0 hts (tw_V wi_302 wi_304 wi_3 wi_24 wi_305) rfl rfl rfl (by decide +kernel) ⟨Nat.le_of_ble_eq_true rfl, Nat.le_of_ble_eq_true rfl⟩) ⟨fun a U g mk q => ⟨q.1, tk_E.call q.2.1, q.2.2⟩, va_recv hK hP (ci := 3) (q0 := 0) rfl rfl, fun U hU hW => ⟨rfl, tk_E.warm hW hE, by rw [hU]; exact hP⟩⟩ rfl rfl hl.1 rfl (lv_room (Nat.le_of_ble_eq_true rfl)) dB_pin_40 ⟨Nat.zero_le _, Nat.zero_le _⟩)) (fun r_5 er_5 => ?_)
      subst er_5
      refine lv_if_eq (tgt := 56) hx hb dB_pin_43 (by decide) (fun c_6 => ?_) (fun c_6 => ?_)
      · refine lv_aload_n hx hb dB_pin_56 rfl (lv_at hl 1 rfl) ?_
        refine va_get (D := (dC, dI)) (ci := 3) (v := .ref dr) (C := RB) (T := TB) (N := 4) hx hb hts (inC inB) hown hK hP 0 rfl rfl 0 (by decide) (hq _ wi_114) (fun _ h9 => h9) rfl dB_pin_57 ?_
        refine lv_iload_n hx hb dB_pin_60 rfl (lv_at hl 2 rfl) ?_
        refine vp_callSi (va_Run.run (va_runV (As := [.int x]) (rest := []) ⟨hx, hb, hml, hown, hts⟩ (c_D_isTorn l dC dI ka dr db lf wn rd dk x n ex hn) (cwV 1 hts (tw_V wi_195 wi_196 wi_197 wi_25 wi_198) rfl rfl rfl (by decide +kernel) ⟨Nat.le_of_ble_eq_true rfl, Nat.le_of_ble_eq_true rfl⟩) ⟨fun a U g mk q => ⟨q.1, tk_E.call q.2.1, q.2.2⟩, va_recv hK hP (ci := 0) (q0 := 1) rfl rfl, fun U hU hW => ⟨rfl, tk_E.warm hW hE, by rw [hU]; exact (tk_two hP (k := 1) (k' := 2) rfl rfl)⟩⟩ rfl rfl hl.1 rfl (lv_room (Nat.le_of_ble_eq_true rfl)) dB_pin_61 ⟨Nat.zero_le _, Nat.zero_le _⟩)) (fun r_7 er_7 => ?_)
        replace er_7 := er_7.trans (if_pos hnt)
        subst er_7
        refine lv_if_eq (tgt := 77) hx hb dB_pin_64 (by decide) (fun c_8 => ?_) (fun c_8 => ?_)
        · refine lv_aload_n hx hb dB_pin_77 rfl (lv_at hl 1 rfl) ?_
          have hFc := tk_freeW hD hS hA
          refine vx_calli (vx_runV (As := []) (rest := []) ⟨hx, hb, hml, hown, hts⟩ (c_B_findFrame_x l hst dC dI ka sa _ h dr db lg fa fr fb pg pn us di bt dk lf wn rd en fl q f0 np mm u1 hne hq0 hHB hf0 hd0 hpg hnp hF hm8 hnz h0) (cwV 0 hts (tw_V wi_338 wi_340 wi_4 wi_24 wi_341) rfl rfl rfl (by decide +kernel) ⟨Nat.le_of_ble_eq_true rfl, Nat.le_of_ble_eq_true rfl⟩) ⟨fun a U g mk q => ⟨q.1, q.2.1, tk_E.call q.2.2.1, tk_X.call q.2.2.2.1, tk_Z.call q.2.2.2.2.1, q.2.2.2.2.2⟩, va_recv hK hP (ci := 3) (q0 := 0) rfl rfl, fun U hU hW => ⟨rfl, by rw [hU], tk_E.warm hW hE, tk_X.warm hW hXx, tk_Z.at hZz hS hU hW hFc, by rw [hU]; exact hP, hD.weaken (fun _ _ _ _ => trivial)⟩⟩ rfl rfl hl.1 rfl (lv_room (Nat.le_of_ble_eq_true rfl)) dB_pin_78 ⟨Nat.le_refl _, Nat.le_refl _⟩) hS (fun q _ h => hFc q h) hFc (fun q _ h => hFc q h) (fun E9 ce q9 u t H1 locs ht hvm hpx hBX hz1 hk1 hS hce hcv hcl => ?_) (fun r u t H1 locs ht hvm hw hB hz1 hk1 hS => hw.elim)
          obtain ⟨rfl, hB⟩ := hBX
          exact vx_out (fun z hz => (hT z hz).elim) hlocks hce hcv hcl (fun t9 ht9 hvm9 => ⟨(), trivial, ⟨rfl, by show va_P _ _ _ t9.heap; rw [ht9.trans ht.symm]; exact hB⟩, hS.F ht9⟩) hS.2.2 (Nat.le_of_ble_eq_true rfl) (Nat.le_of_ble_eq_true rfl)
        · exact absurd c_8 (by decide)
      · exact absurd c_6 (by decide)
    · exact absurd c_4 (by decide)
  · exact absurd c_2 (by decide)

set_option maxHeartbeats 4000000 in
set_option maxRecDepth 100000 in
theorem c_B_remake_p0 (l : Launch) (hst : l.stackTraces = false) (dC : Nat → ClassId) (dI : Nat → Nat → Nat) (ka : Nat → ClassId) (sa : Nat → Nat) (sz : Nat) (h dr db lg fa : Nat) (fr fb : Nat → Nat) (pg pn us di : Nat → Int32) (bt : Nat → Nat → Int32) (dk : Nat → Int32) (lf wn rd en fl hd : Int32) (x : Int32) (hx0 : x < 0 ∨ nI 192 ≤ x) : vx_Met l yB_remake wB_remake ({ frames := 6, cells := 1, slots := 6, locals := 82 }) (va_Pc [.ref h, .int x] (fun U => U.heap.size = sz ∧ tk_E dC dI ka U ∧ tk_X sa U ∧ tk_Z (va_A (dw h dr db lg fa fr fb ka pg pn us di bt dk lf wn rd en fl hd) sz) U U.heap ∧ va_P (dC, dI) clB (dw h dr db lg fa fr fb ka pg pn us di bt dk lf wn rd en fl hd) U.heap ∧ va_D (fun _ => True) (dw h dr db lg fa fr fb ka pg pn us di bt dk lf wn rd en fl hd))) (va_Qi (fun (_ : Int32) (_ : Unit) => False) (fun _ _ => True) (va_A (dw h dr db lg fa fr fb ka pg pn us di bt dk lf wn rd en fl hd) sz)) (vx_X (fun _ : Unit => True) (fun E _ t => E = xIAE ∧ va_P (dC, dI) clB (dw h dr db lg fa fr fb ka pg pn us di bt dk lf wn rd en fl hd) t.heap) (va_A (dw h dr db lg fa fr fb ka pg pn us di bt dk lf wn rd en fl hd) sz)) 1 6 (va_A (dw h dr db lg fa fr fb ka pg pn us di bt dk lf wn rd en fl hd) sz) := by
  refine vx_ofW (cc := cB_remake) (maxL := 3) (ret := (some .int)) (by decide) rfl ?_
  intro p e s m args below meth c s₁ B hml hT hv
  obtain ⟨rfl, hsz, hE, hXx, hZz, hP, hD0⟩ := hv
  have hx := B.exec
  have hb := B.bytes
  have hr := B.returns
  have hts := atoms_spec (ws := wB_remake) B.pre
  have hq : ∀ w ∈ lwg, w.before _ s = true := fun w h => hts w (List.mem_cons_of_mem _ h)
  have hown : s.vm.findClass RB = some m.cls := findClass_of_methodNamed B.named
  have hlocks := B.notSynchronized
  have hK := hE.1
  have hN := hE.2
  subst hsz
  have hD := hD0.self (sz := s.heap.size)
  generalize hAe : va_A (dw h dr db lg fa fr fb ka pg pn us di bt dk lf wn rd en fl hd) s.heap.size = A at hD hZz ⊢
  have hA : ∀ q : Nat, s.heap.size ≤ q → A q := fun q h => by rw [← hAe]; exact Or.inr h
  have hS : va_S A s.heap s.heap [] := va_S.rf
  have hDw := hD
  have hP : va_P (dC, dI) clB (dw h dr db lg fa fr fb ka pg pn us di bt dk lf wn rd en fl hd) s.heap := hP
  have hl := lv_entry ([.ref h, .int x]) (n := 3) (Nat.le_of_ble_eq_true rfl)
  rw [lg_entry_eq]
  generalize (lg_sl ([.ref h, .int x]) ++ List.replicate (3 - (lg_sl ([.ref h, .int x])).length) Slot.unset).toArray = ls at hl ⊢
  have hl : lv_has ls 3 [(0, .ref h), (1, .int x)] := hl
  refine lv_iload_n hx hb dB_remake_0 rfl (lv_at hl 1 rfl) ?_
  refine vp_callSi (va_Run.run (va_runS (As := [.int x]) (rest := []) ⟨hx, hb, hml, hown, hts⟩ (c_B_isPage l dC dI ka x) (cwS 1 hts (tw_S wi_184 wi_185 wi_24 wi_186) rfl rfl rfl (by decide +kernel) ⟨Nat.le_of_ble_eq_true rfl, Nat.le_of_ble_eq_true rfl⟩) ⟨fun a U g mk q => ⟨q.1, tk_E.call q.2.1, q.2.2⟩, fun U hU hW => ⟨rfl, tk_E.warm hW hE, by rw [hU]; exact (fun k q h => by simp at h)⟩⟩ rfl rfl hl.1 rfl (lv_room (Nat.le_of_ble_eq_true rfl)) dB_remake_1 ⟨Nat.zero_le _, Nat.zero_le _⟩)) (fun r_1 er_1 => ?_)
  replace er_1 := er_1.trans (tk_is0 (N := 192) hx0)
  subst er_1
  refine lv_if_ne (tgt := 17) hx hb dB_remake_4 (by decide) (fun c_2 => ?_) (fun c_2 => ?_)
  · exact absurd c_2 (by decide)
  · refine vx_throwS (names := xUp) (text := "there is no such page") hx hb hst hown (by decide +kernel) (by decide +kernel) (hq _ wi_223) (hq _ wi_32) (hXx.2 0 _ rfl) (tk_at xg_IAE xb_IAE hq hXx.1) xo_IAE hZz.1 hZz.2 hS (hl.1.trans hml.symm) dB_remake_7 dB_remake_10 dB_remake_11 dB_remake_13 dB_remake_16 (fun z hz => (hT z hz).elim) (Nat.le_of_ble_eq_true rfl) (Nat.le_of_ble_eq_true rfl) (Nat.le_of_ble_eq_true rfl) (Nat.le_of_ble_eq_true rfl) hlocks (fun t hvm9 hz9 hk9 => ⟨(), trivial, ⟨rfl, tk_keptP hP hk9⟩, tk_keptF hS hz9 hk9⟩) hS.2.2 (Nat.le_of_ble_eq_true rfl) (Nat.le_of_ble_eq_true rfl)

set_option maxHeartbeats 4000000 in
set_option maxRecDepth 100000 in
theorem c_B_remake_h (l : Launch) (hst : l.stackTraces = false) (dC : Nat → ClassId) (dI : Nat → Nat → Nat) (ka : Nat → ClassId) (sa : Nat → Nat) (sz : Nat) (h dr db lg fa : Nat) (fr fb : Nat → Nat) (pg pn us di : Nat → Int32) (bt : Nat → Nat → Int32) (dk : Nat → Int32) (lf wn rd en fl hd : Int32) (x : Int32) (n j : Nat) (ex : x = nI n) (hn : n < 192) (hj : j < 12) (hfw : fwR pg x (nI j)) : vx_Met l yB_remake wB_remake ({ frames := 6, cells := 1, slots := 6, locals := 82 }) (va_Pc [.ref h, .int x] (fun U => U.heap.size = sz ∧ tk_E dC dI ka U ∧ tk_X sa U ∧ tk_Z (va_A (dw h dr db lg fa fr fb ka pg pn us di bt dk lf wn rd en fl hd) sz) U U.heap ∧ va_P (dC, dI) clB (dw h dr db lg fa fr fb ka pg pn us di bt dk lf wn rd en fl hd) U.heap ∧ va_D (fun _ => True) (dw h dr db lg fa fr fb ka pg pn us di bt dk lf wn rd en fl hd))) (va_Qi (fun (_ : Int32) (_ : Unit) => False) (fun _ _ => True) (va_A (dw h dr db lg fa fr fb ka pg pn us di bt dk lf wn rd en fl hd) sz)) (vx_X (fun _ : Unit => True) (fun E _ t => E = xISE ∧ va_P (dC, dI) clB (dw h dr db lg fa fr fb ka pg pn us di bt dk lf wn rd en fl hd) t.heap) (va_A (dw h dr db lg fa fr fb ka pg pn us di bt dk lf wn rd en fl hd) sz)) 1 6 (va_A (dw h dr db lg fa fr fb ka pg pn us di bt dk lf wn rd en fl hd) sz) := by
  refine vx_ofW (cc := cB_remake) (maxL := 3) (ret := (some .int)) (by decide) rfl ?_
  intro p e s m args below meth c s₁ B hml hT hv
  obtain ⟨rfl, hsz, hE, hXx, hZz, hP, hD0⟩ := hv
  have hx := B.exec
  have hb := B.bytes
  have hr := B.returns
  have hts := atoms_spec (ws := wB_remake) B.pre
  have hq : ∀ w ∈ lwg, w.before _ s = true := fun w h => hts w (List.mem_cons_of_mem _ h)
  have hown : s.vm.findClass RB = some m.cls := findClass_of_methodNamed B.named
  have hlocks := B.notSynchronized
  have hK := hE.1
  have hN := hE.2
  subst hsz
  have hD := hD0.self (sz := s.heap.size)
  generalize hAe : va_A (dw h dr db lg fa fr fb ka pg pn us di bt dk lf wn rd en fl hd) s.heap.size = A at hD hZz ⊢
  have hA : ∀ q : Nat, s.heap.size ≤ q → A q := fun q h => by rw [← hAe]; exact Or.inr h
  have hS : va_S A s.heap s.heap [] := va_S.rf
  have hDw := hD
  have hP : va_P (dC, dI) clB (dw h dr db lg fa fr fb ka pg pn us di bt dk lf wn rd en fl hd) s.heap := hP
  have hl := lv_entry ([.ref h, .int x]) (n := 3) (Nat.le_of_ble_eq_true rfl)
  rw [lg_entry_eq]
  generalize (lg_sl ([.ref h, .int x]) ++ List.replicate (3 - (lg_sl ([.ref h, .int x])).length) Slot.unset).toArray = ls at hl ⊢
  have hl : lv_has ls 3 [(0, .ref h), (1, .int x)] := hl
  refine lv_iload_n hx hb dB_remake_0 rfl (lv_at hl 1 rfl) ?_
  refine vp_callSi (va_Run.run (va_runS (As := [.int x]) (rest := []) ⟨hx, hb, hml, hown, hts⟩ (c_B_isPage l dC dI ka x) (cwS 1 hts (tw_S wi_184 wi_185 wi_24 wi_186) rfl rfl rfl (by decide +kernel) ⟨Nat.le_of_ble_eq_true rfl, Nat.le_of_ble_eq_true rfl⟩) ⟨fun a U g mk q => ⟨q.1, tk_E.call q.2.1, q.2.2⟩, fun U hU hW => ⟨rfl, tk_E.warm hW hE, by rw [hU]; exact (fun k q h => by simp at h)⟩⟩ rfl rfl hl.1 rfl (lv_room (Nat.le_of_ble_eq_true rfl)) dB_remake_1 ⟨Nat.zero_le _, Nat.zero_le _⟩)) (fun r_1 er_1 => ?_)
  replace er_1 := er_1.trans (tk_is1 (N := 192) ex hn (by decide))
  subst er_1
  refine lv_if_ne (tgt := 17) hx hb dB_remake_4 (by decide) (fun c_2 => ?_) (fun c_2 => ?_)
  · refine lv_aload_n hx hb dB_remake_17 rfl (lv_at hl 0 rfl) ?_
    refine lv_iload_n hx hb dB_remake_18 rfl (lv_at hl 1 rfl) ?_
    refine vp_callSi (va_Run.run (va_runV (As := [.int x]) (rest := []) ⟨hx, hb, hml, hown, hts⟩ (c_B_frameWith l dC dI ka h dr db lg fa fr fb pg pn us di bt dk lf wn rd en fl hd x (nI j) hfw) (cwV 1 hts (tw_V wi_291 wi_293 wi_2 wi_24 wi_294) rfl rfl rfl (by decide +kernel) ⟨Nat.le_of_ble_eq_true rfl, Nat.le_of_ble_eq_true rfl⟩) ⟨fun a U g mk q => ⟨q.1, tk_E.call q.2.1, q.2.2⟩, va_recv hK hP (ci := 3) (q0 := 0) rfl rfl, fun U hU hW => ⟨rfl, tk_E.warm hW hE, by rw [hU]; exact hP⟩⟩ rfl rfl hl.1 rfl (lv_room (Nat.le_of_ble_eq_true rfl)) dB_remake_19 ⟨Nat.zero_le _, Nat.zero_le _⟩)) (fun r_3 er_3 => ?_)
    subst er_3
    refine lv_iconst (v := (-1)) hx hb dB_remake_22 (by decide) ?_
    refine lv_icmp_eq (tgt := 36) hx hb dB_remake_23 (by decide) (fun c_4 => ?_) (fun c_4 => ?_)
    · exact absurd (c_4 ▸ nI_pos (n := j) (by omega)) (by decide)
    · refine vx_throwS (names := xUp) (text := "a frame has the page") hx hb hst hown (by decide +kernel) (by decide +kernel) (hq _ wi_306) (hq _ wi_34) (hXx.2 4 _ rfl) (tk_at xg_ISE xb_ISE hq hXx.1) xo_ISE hZz.1 hZz.2 hS (hl.1.trans hml.symm) dB_remake_26 dB_remake_29 dB_remake_30 dB_remake_32 dB_remake_35 (fun z hz => (hT z hz).elim) (Nat.le_of_ble_eq_true rfl) (Nat.le_of_ble_eq_true rfl) (Nat.le_of_ble_eq_true rfl) (Nat.le_of_ble_eq_true rfl) hlocks (fun t hvm9 hz9 hk9 => ⟨(), trivial, ⟨rfl, tk_keptP hP hk9⟩, tk_keptF hS hz9 hk9⟩) hS.2.2 (Nat.le_of_ble_eq_true rfl) (Nat.le_of_ble_eq_true rfl)
  · exact absurd c_2 (by decide)

set_option maxHeartbeats 4000000 in
set_option maxRecDepth 100000 in
theorem c_B_remake_a0 (l : Launch) (hst : l.stackTraces = false) (dC : Nat → ClassId) (dI : Nat → Nat → Nat) (ka : Nat → ClassId) (sa : Nat → Nat) (sz : Nat) (h dr db lg fa : Nat) (fr fb : Nat → Nat) (pg pn us di : Nat → Int32) (bt : Nat → Nat → Int32) (dk : Nat → Int32) (lf wn rd en fl hd : Int32) (x : Int32) (n : Nat) (ex : x = nI n) (hn : n < 192) (hno : ∀ i, i < 12 → pg i ≠ x) (hap : ahR pn 1) : vx_Met l yB_remake wB_remake ({ frames := 6, cells := 1, slots := 6, locals := 82 }) (va_Pc [.ref h, .int x] (fun U => U.heap.size = sz ∧ tk_E dC dI ka U ∧ tk_X sa U ∧ tk_Z (va_A (dw h dr db lg fa fr fb ka pg pn us di bt dk lf wn rd en fl hd) sz) U U.heap ∧ va_P (dC, dI) clB (dw h dr db lg fa fr fb ka pg pn us di bt dk lf wn rd en fl hd) U.heap ∧ va_D (fun _ => True) (dw h dr db lg fa fr fb ka pg pn us di bt dk lf wn rd en fl hd))) (va_Qi (fun (_ : Int32) (_ : Unit) => False) (fun _ _ => True) (va_A (dw h dr db lg fa fr fb ka pg pn us di bt dk lf wn rd en fl hd) sz)) (vx_X (fun _ : Unit => True) (fun E _ t => E = xISE ∧ va_P (dC, dI) clB (dw h dr db lg fa fr fb ka pg pn us di bt dk lf wn rd en fl hd) t.heap) (va_A (dw h dr db lg fa fr fb ka pg pn us di bt dk lf wn rd en fl hd) sz)) 1 6 (va_A (dw h dr db lg fa fr fb ka pg pn us di bt dk lf wn rd en fl hd) sz) := by
  refine vx_ofW (cc := cB_remake) (maxL := 3) (ret := (some .int)) (by decide) rfl ?_
  intro p e s m args below meth c s₁ B hml hT hv
  obtain ⟨rfl, hsz, hE, hXx, hZz, hP, hD0⟩ := hv
  have hx := B.exec
  have hb := B.bytes
  have hr := B.returns
  have hts := atoms_spec (ws := wB_remake) B.pre
  have hq : ∀ w ∈ lwg, w.before _ s = true := fun w h => hts w (List.mem_cons_of_mem _ h)
  have hown : s.vm.findClass RB = some m.cls := findClass_of_methodNamed B.named
  have hlocks := B.notSynchronized
  have hK := hE.1
  have hN := hE.2
  subst hsz
  have hD := hD0.self (sz := s.heap.size)
  generalize hAe : va_A (dw h dr db lg fa fr fb ka pg pn us di bt dk lf wn rd en fl hd) s.heap.size = A at hD hZz ⊢
  have hA : ∀ q : Nat, s.heap.size ≤ q → A q := fun q h => by rw [← hAe]; exact Or.inr h
  have hS : va_S A s.heap s.heap [] := va_S.rf
  have hDw := hD
  have hP : va_P (dC, dI) clB (dw h dr db lg fa fr fb ka pg pn us di bt dk lf wn rd en fl hd) s.heap := hP
  have hl := lv_entry ([.ref h, .int x]) (n := 3) (Nat.le_of_ble_eq_true rfl)
  rw [lg_entry_eq]
  generalize (lg_sl ([.ref h, .int x]) ++ List.replicate (3 - (lg_sl ([.ref h, .int x])).length) Slot.unset).toArray = ls at hl ⊢
  have hl : lv_has ls 3 [(0, .ref h), (1, .int x)] := hl
  refine lv_iload_n hx hb dB_remake_0 rfl (lv_at hl 1 rfl) ?_
  refine vp_callSi (va_Run.run (va_runS (As := [.int x]) (rest := []) ⟨hx, hb, hml, hown, hts⟩ (c_B_isPage l dC dI ka x) (cwS 1 hts (tw_S wi_184 wi_185 wi_24 wi_186) rfl rfl rfl (by decide +kernel) ⟨Nat.le_of_ble_eq_true rfl, Nat.le_of_ble_eq_true rfl⟩) ⟨fun a U g mk q => ⟨q.1, tk_E.call q.2.1, q.2.2⟩, fun U hU hW => ⟨rfl, tk_E.warm hW hE, by rw [hU]; exact (fun k q h => by simp at h)⟩⟩ rfl rfl hl.1 rfl (lv_room (Nat.le_of_ble_eq_true rfl)) dB_remake_1 ⟨Nat.zero_le _, Nat.zero_le _⟩)) (fun r_1 er_1 => ?_)
  replace er_1 := er_1.trans (tk_is1 (N := 192) ex hn (by decide))
  subst er_1
  refine lv_if_ne (tgt := 17) hx hb dB_remake_4 (by decide) (fun c_2 => ?_) (fun c_2 => ?_)
  · refine lv_aload_n hx hb dB_remake_17 rfl (lv_at hl 0 rfl) ?_
    refine lv_iload_n hx hb dB_remake_18 rfl (lv_at hl 1 rfl) ?_
    refine vp_callSi (va_Run.run (va_runV (As := [.int x]) (rest := []) ⟨hx, hb, hml, hown, hts⟩ (c_B_frameWith l dC dI ka h dr db lg fa fr fb pg pn us di bt dk lf wn rd en fl hd x (-1) (Or.inl ⟨rfl, hno⟩)) (cwV 1 hts (tw_V wi_291 wi_293 wi_2 wi_24 wi_294) rfl rfl rfl (by decide +kernel) ⟨Nat.le_of_ble_eq_true rfl, Nat.le_of_ble_eq_true rfl⟩) ⟨fun a U g mk q => ⟨q.1, tk_E.call q.2.1, q.2.2⟩, va_recv hK hP (ci := 3) (q0 := 0) rfl rfl, fun U hU hW => ⟨rfl, tk_E.warm hW hE, by rw [hU]; exact hP⟩⟩ rfl rfl hl.1 rfl (lv_room (Nat.le_of_ble_eq_true rfl)) dB_remake_19 ⟨Nat.zero_le _, Nat.zero_le _⟩)) (fun r_3 er_3 => ?_)
    subst er_3
    refine lv_iconst (v := (-1)) hx hb dB_remake_22 (by decide) ?_
    refine lv_icmp_eq (tgt := 36) hx hb dB_remake_23 (by decide) (fun c_4 => ?_) (fun c_4 => ?_)
    · refine lv_aload_n hx hb dB_remake_36 rfl (lv_at hl 0 rfl) ?_
      refine vp_callSi (va_Run.run (va_runV (As := []) (rest := []) ⟨hx, hb, hml, hown, hts⟩ (c_B_allHavePins l dC dI ka h dr db lg fa fr fb pg pn us di bt dk lf wn rd en fl hd 1 hap) (cwV 0 hts (tw_V wi_302 wi_304 wi_3 wi_24 wi_305) rfl rfl rfl (by decide +kernel) ⟨Nat.le_of_ble_eq_true rfl, Nat.le_of_ble_eq_true rfl⟩) ⟨fun a U g mk q => ⟨q.1, tk_E.call q.2.1, q.2.2⟩, va_recv hK hP (ci := 3) (q0 := 0) rfl rfl, fun U hU hW => ⟨rfl, tk_E.warm hW hE, by rw [hU]; exact hP⟩⟩ rfl rfl hl.1 rfl (lv_room (Nat.le_of_ble_eq_true rfl)) dB_remake_37 ⟨Nat.zero_le _, Nat.zero_le _⟩)) (fun r_5 er_5 => ?_)
      subst er_5
      refine lv_if_eq (tgt := 53) hx hb dB_remake_40 (by decide) (fun c_6 => ?_) (fun c_6 => ?_)
      · exact absurd c_6 (by decide)
      · refine vx_throwS (names := xUp) (text := "all frames have pins") hx hb hst hown (by decide +kernel) (by decide +kernel) (hq _ wi_306) (hq _ wi_34) (hXx.2 1 _ rfl) (tk_at xg_ISE xb_ISE hq hXx.1) xo_ISE hZz.1 hZz.2 hS (hl.1.trans hml.symm) dB_remake_43 dB_remake_46 dB_remake_47 dB_remake_49 dB_remake_52 (fun z hz => (hT z hz).elim) (Nat.le_of_ble_eq_true rfl) (Nat.le_of_ble_eq_true rfl) (Nat.le_of_ble_eq_true rfl) (Nat.le_of_ble_eq_true rfl) hlocks (fun t hvm9 hz9 hk9 => ⟨(), trivial, ⟨rfl, tk_keptP hP hk9⟩, tk_keptF hS hz9 hk9⟩) hS.2.2 (Nat.le_of_ble_eq_true rfl) (Nat.le_of_ble_eq_true rfl)
    · exact absurd c_4 (by decide)
  · exact absurd c_2 (by decide)

set_option maxHeartbeats 4000000 in
set_option maxRecDepth 100000 in
theorem c_B_remake_x (l : Launch) (hst : l.stackTraces = false) (dC : Nat → ClassId) (dI : Nat → Nat → Nat) (ka : Nat → ClassId) (sa : Nat → Nat) (sz : Nat) (h dr db lg fa : Nat) (fr fb : Nat → Nat) (pg pn us di : Nat → Int32) (bt : Nat → Nat → Int32) (dk : Nat → Int32) (lf wn rd en fl : Int32) (q : Nat) (x : Int32) (n f0 np mm : Nat) (u1 : Nat → Int32) (ex : x = nI n) (hn : n < 192) (hno : ∀ i, i < 12 → pg i ≠ x) (hap : ahR pn 0) (hne : ∀ i, i < 12 → pg i ≠ -1) (hq0 : q < 12) (hHB : hbU pn 48 (us, q) = (u1, f0)) (hf0 : f0 < 12) (hd0 : ¬ di f0 = 0) (hpg : pg f0 = nI np) (hnp : np < 192) (hF : sb_Fit (bt f0)) (hm8 : mm < 8) (hnz : ∀ z, z < mm → ¬ lfA lf z = 0) (h0 : lfA lf mm = 0) : vx_Met l yB_remake wB_remake ({ frames := 8, cells := 1, slots := 6, locals := 127 }) (va_Pc [.ref h, .int x] (fun U => U.heap.size = sz ∧ tk_E dC dI ka U ∧ tk_X sa U ∧ tk_Z (va_A (dw h dr db lg fa fr fb ka pg pn us di bt dk lf wn rd en fl (nI q)) sz) U U.heap ∧ va_P (dC, dI) clB (dw h dr db lg fa fr fb ka pg pn us di bt dk lf wn rd en fl (nI q)) U.heap ∧ va_D (fun _ => True) (dw h dr db lg fa fr fb ka pg pn us di bt dk lf wn rd en fl (nI q)))) (va_Qi (fun (_ : Int32) (_ : Unit) => False) (fun _ _ => True) (va_A (dw h dr db lg fa fr fb ka pg pn us di bt dk lf wn rd en fl (nI q)) sz)) (vx_X (fun _ : Unit => True) (fun E _ t => E = xUOE ∧ va_P (dC, dI) clB (dw h dr db lg fa fr fb ka (dropF (-1) pg 12) (dropF 0 pn 12) (dropF 0 u1 12) (dropF 0 di 12) (va_up bt f0 (psB (bt f0) (tb2 (bt f0) 0 + 1))) (wrD dk ((va_up bt f0 (psB (bt f0) (tb2 (bt f0) 0 + 1))) f0) np mm) (-1) (wn + nI mm) rd (if en < (plB (bt f0)) then (plB (bt f0)) else en) (if en < (plB (bt f0)) then fl + 1 else fl) 0) t.heap) (va_A (dw h dr db lg fa fr fb ka pg pn us di bt dk lf wn rd en fl (nI q)) sz)) 1 6 (va_A (dw h dr db lg fa fr fb ka pg pn us di bt dk lf wn rd en fl (nI q)) sz) := by
  refine vx_ofW (cc := cB_remake) (maxL := 3) (ret := (some .int)) (by decide) rfl ?_
  intro p e s m args below meth c s₁ B hml hT hv
  obtain ⟨rfl, hsz, hE, hXx, hZz, hP, hD0⟩ := hv
  have hx := B.exec
  have hb := B.bytes
  have hr := B.returns
  have hts := atoms_spec (ws := wB_remake) B.pre
  have hq : ∀ w ∈ lwg, w.before _ s = true := fun w h => hts w (List.mem_cons_of_mem _ h)
  have hown : s.vm.findClass RB = some m.cls := findClass_of_methodNamed B.named
  have hlocks := B.notSynchronized
  have hK := hE.1
  have hN := hE.2
  subst hsz
  have hD := hD0.self (sz := s.heap.size)
  generalize hAe : va_A (dw h dr db lg fa fr fb ka pg pn us di bt dk lf wn rd en fl (nI q)) s.heap.size = A at hD hZz ⊢
  have hA : ∀ q : Nat, s.heap.size ≤ q → A q := fun q h => by rw [← hAe]; exact Or.inr h
  have hS : va_S A s.heap s.heap [] := va_S.rf
  have hDw := hD
  have hP : va_P (dC, dI) clB (dw h dr db lg fa fr fb ka pg pn us di bt dk lf wn rd en fl (nI q)) s.heap := hP
  have hl := lv_entry ([.ref h, .int x]) (n := 3) (Nat.le_of_ble_eq_true rfl)
  rw [lg_entry_eq]
  generalize (lg_sl ([.ref h, .int x]) ++ List.replicate (3 - (lg_sl ([.ref h, .int x])).length) Slot.unset).toArray = ls at hl ⊢
  have hl : lv_has ls 3 [(0, .ref h), (1, .int x)] := hl
  refine lv_iload_n hx hb dB_remake_0 rfl (lv_at hl 1 rfl) ?_
  refine vp_callSi (va_Run.run (va_runS (As := [.int x]) (rest := []) ⟨hx, hb, hml, hown, hts⟩ (c_B_isPage l dC dI ka x) (cwS 1 hts (tw_S wi_184 wi_185 wi_24 wi_186) rfl rfl rfl (by decide +kernel) ⟨Nat.le_of_ble_eq_true rfl, Nat.le_of_ble_eq_true rfl⟩) ⟨fun a U g mk q => ⟨q.1, tk_E.call q.2.1, q.2.2⟩, fun U hU hW => ⟨rfl, tk_E.warm hW hE, by rw [hU]; exact (fun k q h => by simp at h)⟩⟩ rfl rfl hl.1 rfl (lv_room (Nat.le_of_ble_eq_true rfl)) dB_remake_1 ⟨Nat.zero_le _, Nat.zero_le _⟩)) (fun r_1 er_1 => ?_)
  replace er_1 := er_1.trans (tk_is1 (N := 192) ex hn (by decide))
  subst er_1
  refine lv_if_ne (tgt := 17) hx hb dB_remake_4 (by decide) (fun c_2 => ?_) (fun c_2 => ?_)
  · refine lv_aload_n hx hb dB_remake_17 rfl (lv_at hl 0 rfl) ?_
    refine lv_iload_n hx hb dB_remake_18 rfl (lv_at hl 1 rfl) ?_
    refine vp_callSi (va_Run.run (va_runV (As := [.int x]) (rest := []) ⟨hx, hb, hml, hown, hts⟩ (c_B_frameWith l dC dI ka h dr db lg fa fr fb pg pn us di bt dk lf wn rd en fl (nI q) x (-1) (Or.inl ⟨rfl, hno⟩)) (cwV 1 hts (tw_V wi_291 wi_293 wi_2 wi_24 wi_294) rfl rfl rfl (by decide +kernel) ⟨Nat.le_of_ble_eq_true rfl, Nat.le_of_ble_eq_true rfl⟩) ⟨fun a U g mk q => ⟨q.1, tk_E.call q.2.1, q.2.2⟩, va_recv hK hP (ci := 3) (q0 := 0) rfl rfl, fun U hU hW => ⟨rfl, tk_E.warm hW hE, by rw [hU]; exact hP⟩⟩ rfl rfl hl.1 rfl (lv_room (Nat.le_of_ble_eq_true rfl)) dB_remake_19 ⟨Nat.zero_le _, Nat.zero_le _⟩)) (fun r_3 er_3 => ?_)
    subst er_3
    refine lv_iconst (v := (-1)) hx hb dB_remake_22 (by decide) ?_
    refine lv_icmp_eq (tgt := 36) hx hb dB_remake_23 (by decide) (fun c_4 => ?_) (fun c_4 => ?_)
    · refine lv_aload_n hx hb dB_remake_36 rfl (lv_at hl 0 rfl) ?_
      refine vp_callSi (va_Run.run (va_runV (As := []) (rest := []) ⟨hx, hb, hml, hown, hts⟩ (c_B_allHavePins l dC dI ka h dr db lg fa fr fb pg pn us di bt dk lf wn rd en fl (nI q) 0 hap) (cwV 0 hts (tw_V wi_302 wi_304 wi_3 wi_24 wi_305) rfl rfl rfl (by decide +kernel) ⟨Nat.le_of_ble_eq_true rfl, Nat.le_of_ble_eq_true rfl⟩) ⟨fun a U g mk q => ⟨q.1, tk_E.call q.2.1, q.2.2⟩, va_recv hK hP (ci := 3) (q0 := 0) rfl rfl, fun U hU hW => ⟨rfl, tk_E.warm hW hE, by rw [hU]; exact hP⟩⟩ rfl rfl hl.1 rfl (lv_room (Nat.le_of_ble_eq_true rfl)) dB_remake_37 ⟨Nat.zero_le _, Nat.zero_le _⟩)) (fun r_5 er_5 => ?_)
      subst er_5
      refine lv_if_eq (tgt := 53) hx hb dB_remake_40 (by decide) (fun c_6 => ?_) (fun c_6 => ?_)
      · refine lv_aload_n hx hb dB_remake_53 rfl (lv_at hl 0 rfl) ?_
        have hFc := tk_freeW hD hS hA
        refine vx_calli (vx_runV (As := []) (rest := []) ⟨hx, hb, hml, hown, hts⟩ (c_B_findFrame_x l hst dC dI ka sa _ h dr db lg fa fr fb pg pn us di bt dk lf wn rd en fl q f0 np mm u1 hne hq0 hHB hf0 hd0 hpg hnp hF hm8 hnz h0) (cwV 0 hts (tw_V wi_338 wi_340 wi_4 wi_24 wi_341) rfl rfl rfl (by decide +kernel) ⟨Nat.le_of_ble_eq_true rfl, Nat.le_of_ble_eq_true rfl⟩) ⟨fun a U g mk q => ⟨q.1, q.2.1, tk_E.call q.2.2.1, tk_X.call q.2.2.2.1, tk_Z.call q.2.2.2.2.1, q.2.2.2.2.2⟩, va_recv hK hP (ci := 3) (q0 := 0) rfl rfl, fun U hU hW => ⟨rfl, by rw [hU], tk_E.warm hW hE, tk_X.warm hW hXx, tk_Z.at hZz hS hU hW hFc, by rw [hU]; exact hP, hD.weaken (fun _ _ _ _ => trivial)⟩⟩ rfl rfl hl.1 rfl (lv_room (Nat.le_of_ble_eq_true rfl)) dB_remake_54 ⟨Nat.le_refl _, Nat.le_refl _⟩) hS (fun q _ h => hFc q h) hFc (fun q _ h => hFc q h) (fun E9 ce q9 u t H1 locs ht hvm hpx hBX hz1 hk1 hS hce hcv hcl => ?_) (fun r u t H1 locs ht hvm hw hB hz1 hk1 hS => hw.elim)
        obtain ⟨rfl, hB⟩ := hBX
        exact vx_out (fun z hz => (hT z hz).elim) hlocks hce hcv hcl (fun t9 ht9 hvm9 => ⟨(), trivial, ⟨rfl, by show va_P _ _ _ t9.heap; rw [ht9.trans ht.symm]; exact hB⟩, hS.F ht9⟩) hS.2.2 (Nat.le_of_ble_eq_true rfl) (Nat.le_of_ble_eq_true rfl)
      · exact absurd c_6 (by decide)
    · exact absurd c_4 (by decide)
  · exact absurd c_2 (by decide)

set_option maxHeartbeats 4000000 in
set_option maxRecDepth 100000 in
theorem c_B_remake_in (l : Launch) (dC : Nat → ClassId) (dI : Nat → Nat → Nat) (ka : Nat → ClassId) (sz : Nat) (h dr db lg fa : Nat) (fr fb : Nat → Nat) (pg pn us di : Nat → Int32) (bt : Nat → Nat → Int32) (dk : Nat → Int32) (lf wn rd en fl : Int32) (q : Nat) (x : Int32) (n f0 : Nat) (us' di' : Nat → Int32) (bt' : Nat → Nat → Int32) (dk' : Nat → Int32) (lf' wn' en' fl' hd' : Int32) (ex : x = nI n) (hn : n < 192) (hno : ∀ i, i < 12 → pg i ≠ x) (hap : ahR pn 0) (hq0 : q < 12) (hff : ffOK pg pn us di bt dk lf wn en fl q f0 us' di' bt' dk' lf' wn' en' fl' hd') : Met l yB_remake wB_remake ({ frames := 4, cells := 0, slots := 0, locals := 151 }) (va_Pc [.ref h, .int x] (fun U => U.heap.size = sz ∧ tk_E dC dI ka U ∧ va_P (dC, dI) clB (dw h dr db lg fa fr fb ka pg pn us di bt dk lf wn rd en fl (nI q)) U.heap ∧ va_D (fun _ => True) (dw h dr db lg fa fr fb ka pg pn us di bt dk lf wn rd en fl (nI q)))) (va_Qi (fun (r : Int32) (_ : Unit) => r = nI f0) (fun _ t => va_P (dC, dI) clB (dw h dr db lg fa fr fb ka (upd pg f0 x) (upd pn f0 1) (upd us' f0 1) (upd di' f0 0) (va_up bt' f0 (psB (fun _ => 0) (tb2 dk' (n * 512)))) dk' lf' wn' rd en' fl' hd') t.heap) (va_A (dw h dr db lg fa fr fb ka pg pn us di bt dk lf wn rd en fl (nI q)) sz)) 0 0 (va_A (dw h dr db lg fa fr fb ka pg pn us di bt dk lf wn rd en fl (nI q)) sz) := by
  refine Met.ofW (cc := cB_remake) (maxL := 3) (ret := (some .int)) (by decide) rfl ?_
  intro p e s m args below meth c s₁ B hml hv
  obtain ⟨rfl, hsz, hE, hP, hD0⟩ := hv
  have hx := B.exec
  have hb := B.bytes
  have hr := B.returns
  have hts := atoms_spec (ws := wB_remake) B.pre
  have hq : ∀ w ∈ lwg, w.before _ s = true := fun w h => hts w (List.mem_cons_of_mem _ h)
  have hown : s.vm.findClass RB = some m.cls := findClass_of_methodNamed B.named
  have hlocks := B.notSynchronized
  have hK := hE.1
  have hN := hE.2
  subst hsz
  have hD := hD0.self (sz := s.heap.size)
  generalize hAe : va_A (dw h dr db lg fa fr fb ka pg pn us di bt dk lf wn rd en fl (nI q)) s.heap.size = A at hD ⊢
  have hA : ∀ q : Nat, s.heap.size ≤ q → A q := fun q h => by rw [← hAe]; exact Or.inr h
  have hS : va_S A s.heap s.heap [] := va_S.rf
  have hDw := hD
  have hP : va_P (dC, dI) clB (dw h dr db lg fa fr fb ka pg pn us di bt dk lf wn rd en fl (nI q)) s.heap := hP
  have hl := lv_entry ([.ref h, .int x]) (n := 3) (Nat.le_of_ble_eq_true rfl)
  rw [lg_entry_eq]
  generalize (lg_sl ([.ref h, .int x]) ++ List.replicate (3 - (lg_sl ([.ref h, .int x])).length) Slot.unset).toArray = ls at hl ⊢
  have hl : lv_has ls 3 [(0, .ref h), (1, .int x)] := hl
  refine lv_iload_n hx hb dB_remake_0 rfl (lv_at hl 1 rfl) ?_
  refine vp_callSi (va_Run.run (va_runS (As := [.int x]) (rest := []) ⟨hx, hb, hml, hown, hts⟩ (c_B_isPage l dC dI ka x) (cwS 1 hts (tw_S wi_184 wi_185 wi_24 wi_186) rfl rfl rfl (by decide +kernel) ⟨Nat.le_of_ble_eq_true rfl, Nat.le_of_ble_eq_true rfl⟩) ⟨fun a U g mk q => ⟨q.1, tk_E.call q.2.1, q.2.2⟩, fun U hU hW => ⟨rfl, tk_E.warm hW hE, by rw [hU]; exact (fun k q h => by simp at h)⟩⟩ rfl rfl hl.1 rfl (lv_room (Nat.le_of_ble_eq_true rfl)) dB_remake_1 ⟨Nat.zero_le _, Nat.zero_le _⟩)) (fun r_1 er_1 => ?_)
  replace er_1 := er_1.trans (tk_is1 (N := 192) ex hn (by decide))
  subst er_1
  refine lv_if_ne (tgt := 17) hx hb dB_remake_4 (by decide) (fun c_2 => ?_) (fun c_2 => ?_)
  · refine lv_aload_n hx hb dB_remake_17 rfl (lv_at hl 0 rfl) ?_
    refine lv_iload_n hx hb dB_remake_18 rfl (lv_at hl 1 rfl) ?_
    refine vp_callSi (va_Run.run (va_runV (As := [.int x]) (rest := []) ⟨hx, hb, hml, hown, hts⟩ (c_B_frameWith l dC dI ka h dr db lg fa fr fb pg pn us di bt dk lf wn rd en fl (nI q) x (-1) (Or.inl ⟨rfl, hno⟩)) (cwV 1 hts (tw_V wi_291 wi_293 wi_2 wi_24 wi_294) rfl rfl rfl (by decide +kernel) ⟨Nat.le_of_ble_eq_true rfl, Nat.le_of_ble_eq_true rfl⟩) ⟨fun a U g mk q => ⟨q.1, tk_E.call q.2.1, q.2.2⟩, va_recv hK hP (ci := 3) (q0 := 0) rfl rfl, fun U hU hW => ⟨rfl, tk_E.warm hW hE, by rw [hU]; exact hP⟩⟩ rfl rfl hl.1 rfl (lv_room (Nat.le_of_ble_eq_true rfl)) dB_remake_19 ⟨Nat.zero_le _, Nat.zero_le _⟩)) (fun r_3 er_3 => ?_)
    subst er_3
    refine lv_iconst (v := (-1)) hx hb dB_remake_22 (by decide) ?_
    refine lv_icmp_eq (tgt := 36) hx hb dB_remake_23 (by decide) (fun c_4 => ?_) (fun c_4 => ?_)
    · refine lv_aload_n hx hb dB_remake_36 rfl (lv_at hl 0 rfl) ?_
      refine vp_callSi (va_Run.run (va_runV (As := []) (rest := []) ⟨hx, hb, hml, hown, hts⟩ (c_B_allHavePins l dC dI ka h dr db lg fa fr fb pg pn us di bt dk lf wn rd en fl (nI q) 0 hap) (cwV 0 hts (tw_V wi_302 wi_304 wi_3 wi_24 wi_305) rfl rfl rfl (by decide +kernel) ⟨Nat.le_of_ble_eq_true rfl, Nat.le_of_ble_eq_true rfl⟩) ⟨fun a U g mk q => ⟨q.1, tk_E.call q.2.1, q.2.2⟩, va_recv hK hP (ci := 3) (q0 := 0) rfl rfl, fun U hU hW => ⟨rfl, tk_E.warm hW hE, by rw [hU]; exact hP⟩⟩ rfl rfl hl.1 rfl (lv_room (Nat.le_of_ble_eq_true rfl)) dB_remake_37 ⟨Nat.zero_le _, Nat.zero_le _⟩)) (fun r_5 er_5 => ?_)
      subst er_5
      refine lv_if_eq (tgt := 53) hx hb dB_remake_40 (by decide) (fun c_6 => ?_) (fun c_6 => ?_)
      · have hf0 := hff.1
        refine lv_aload_n hx hb dB_remake_53 rfl (lv_at hl 0 rfl) ?_
        have hFc := tk_freeW hD hS hA
        refine va_calli (va_runV (As := []) (rest := []) ⟨hx, hb, hml, hown, hts⟩ (c_B_findFrame l dC dI ka _ h dr db lg fa fr fb pg pn us di bt dk lf wn rd en fl q f0 us' di' bt' dk' lf' wn' en' fl' hd' hq0 hff) (cwV 0 hts (tw_V wi_338 wi_340 wi_4 wi_24 wi_341) rfl rfl rfl (by decide +kernel) ⟨Nat.le_of_ble_eq_true rfl, Nat.le_of_ble_eq_true rfl⟩) ⟨fun a U g mk q => ⟨q.1, q.2.1, tk_E.call q.2.2.1, q.2.2.2⟩, va_recv hK hP (ci := 3) (q0 := 0) rfl rfl, fun U hU hW => ⟨rfl, by rw [hU], tk_E.warm hW hE, by rw [hU]; exact hP, hD.weaken (fun _ _ _ _ => trivial)⟩⟩ rfl rfl hl.1 rfl (lv_room (Nat.le_of_ble_eq_true rfl)) dB_remake_54 ⟨Nat.zero_le _, Nat.zero_le _⟩) hS (fun q _ h => hFc q h) hFc (fun r_8 u_7 t H1 locs ht hvm hw hB hz1 hk1 hS => ?_)
        have hB : va_P (dC, dI) clB (dw h dr db lg fa fr fb ka pg pn us' di' bt' dk' lf' wn' rd en' fl' hd') H1 := by rw [← ht]; exact hB
        obtain ⟨hP, hD⟩ := (⟨hB, dw_D hDw⟩ : va_P (dC, dI) clB (dw h dr db lg fa fr fb ka pg pn us' di' bt' dk' lf' wn' rd en' fl' hd') H1 ∧ va_D A (dw h dr db lg fa fr fb ka pg pn us' di' bt' dk' lf' wn' rd en' fl' hd'))
        generalize H1 = H at hP hS ⊢
        have hP : va_P (dC, dI) clB (dw h dr db lg fa fr fb ka pg pn us' di' bt' dk' lf' wn' rd en' fl' hd') H := hP
        have hD : va_D A (dw h dr db lg fa fr fb ka pg pn us' di' bt' dk' lf' wn' rd en' fl' hd') := dw_D hDw
        subst hw
        refine lv_istore_n (lv' := [(2, .int (nI f0)), (0, .ref h), (1, .int x)]) hx hb dB_remake_57 rfl hl (by decide) rfl (fun ls hl => ?_)
        refine lv_aload_n hx hb dB_remake_58 rfl (lv_at hl 1 rfl) ?_
        refine va_get (D := (dC, dI)) (ci := 3) (v := .ref fa) (C := RB) (T := TB) (N := 4) hx hb hts (inC inB) hown hK hP 0 rfl rfl 2 (by decide) (hq _ wi_116) (fun _ h9 => h9) rfl dB_remake_59 ?_
        refine lv_iload_n hx hb dB_remake_62 rfl (lv_at hl 0 rfl) ?_
        refine tk_aald (n := f0) (y := fr f0) hx hb hK hP 4 1 rfl rfl rfl hf0 (by decide) rfl dB_remake_63 ?_
        refine lv_iload_n hx hb dB_remake_64 rfl (lv_at hl 2 rfl) ?_
        have hFc := tk_free1 (k := 5 + f0) hD hS hA (dw_fr hf0)
        refine va_callv (va_runV (As := [.int x]) (rest := []) ⟨hx, hb, hml, hown, hts⟩ (c_F_takePage l dC dI ka _ (fr f0) (fb f0) (pg f0) (pn f0) (us' f0) (di' f0) x) (cwV 1 hts (tw_V wi_405 wi_406 wi_407 wi_27 wi_408) rfl rfl rfl (by decide +kernel) ⟨Nat.le_of_ble_eq_true rfl, Nat.le_of_ble_eq_true rfl⟩) ⟨fun a U g mk q => ⟨q.1, q.2.1, tk_E.call q.2.2.1, q.2.2.2⟩, va_recv hK hP (ci := 1) (q0 := (5 + f0)) rfl (dw_fr hf0), fun U hU hW => ⟨rfl, by rw [hU], tk_E.warm hW hE, by rw [hU]; exact (tk_one hP (k := 5 + f0) (dw_fr hf0)), tk_done⟩⟩ rfl rfl hl.1 rfl (lv_room (Nat.le_of_ble_eq_true rfl)) dB_remake_65 ⟨Nat.zero_le _, Nat.zero_le _⟩) hS (fun q _ h => hFc q h) hFc (fun u_9 t H1 locs ht hvm hw hB hz1 hk1 hS => ?_)
        have hB : va_P (dC, dI) clB [((fr f0), .inr (1, [.ref (fb f0), .int x, .int 1, .int 1, .int 0]))] H1 := by rw [← ht]; exact hB
        obtain ⟨hP, hD⟩ := tk_join1 (k := 5 + f0) hP hD (dw_fr hf0) hk1 hB
        generalize H1 = H at hP hS ⊢
        have hP : va_P (dC, dI) clB (dw h dr db lg fa fr fb ka (upd pg f0 x) (upd pn f0 1) (upd us' f0 1) (upd di' f0 0) bt' dk' lf' wn' rd en' fl' hd') H := (by rw [← dw_set_fr hf0]; exact hP)
        have hD : va_D A (dw h dr db lg fa fr fb ka (upd pg f0 x) (upd pn f0 1) (upd us' f0 1) (upd di' f0 0) bt' dk' lf' wn' rd en' fl' hd') := dw_D hDw
        refine lv_aload_n hx hb dB_remake_68 rfl (lv_at hl 1 rfl) ?_
        refine va_get (D := (dC, dI)) (ci := 3) (v := .ref fa) (C := RB) (T := TB) (N := 4) hx hb hts (inC inB) hown hK hP 0 rfl rfl 2 (by decide) (hq _ wi_116) (fun _ h9 => h9) rfl dB_remake_69 ?_
        refine lv_iload_n hx hb dB_remake_72 rfl (lv_at hl 0 rfl) ?_
        refine tk_aald (n := f0) (y := fr f0) hx hb hK hP 4 1 rfl rfl rfl hf0 (by decide) rfl dB_remake_73 ?_
        refine lv_aload_n hx hb dB_remake_74 rfl (lv_at hl 1 rfl) ?_
        refine va_get (D := (dC, dI)) (ci := 3) (v := .ref dr) (C := RB) (T := TB) (N := 4) hx hb hts (inC inB) hown hK hP 0 rfl rfl 0 (by decide) (hq _ wi_114) (fun _ h9 => h9) rfl dB_remake_75 ?_
        refine lv_iload_n hx hb dB_remake_78 rfl (lv_at hl 2 rfl) ?_
        refine vp_callSi (va_Run.run (va_runV (As := [.int x]) (rest := [.ref (fr f0)]) ⟨hx, hb, hml, hown, hts⟩ (c_D_firstStamp l dC dI ka dr db lf' wn' rd dk' x n ex hn) (cwV 1 hts (tw_V wi_421 wi_200 wi_201 wi_25 wi_202) rfl rfl rfl (by decide +kernel) ⟨Nat.le_of_ble_eq_true rfl, Nat.le_of_ble_eq_true rfl⟩) ⟨fun a U g mk q => ⟨q.1, tk_E.call q.2.1, q.2.2⟩, va_recv hK hP (ci := 0) (q0 := 1) rfl rfl, fun U hU hW => ⟨rfl, tk_E.warm hW hE, by rw [hU]; exact (tk_two hP (k := 1) (k' := 2) rfl rfl)⟩⟩ rfl rfl hl.1 rfl (lv_room (Nat.le_of_ble_eq_true rfl)) dB_remake_79 ⟨Nat.zero_le _, Nat.zero_le _⟩)) (fun r_11 er_11 => ?_)
        subst er_11
        have hFc := tk_free2 (k := 5 + f0) (k' := 17 + f0) hD hS hA (dw_fr hf0) (dw_fb hf0)
        refine va_callv (va_runV (As := [.int (tb2 dk' (n * 512))]) (rest := []) ⟨hx, hb, hml, hown, hts⟩ (c_F_blank l dC dI ka _ (fr f0) (fb f0) ((upd pg f0 x) f0) ((upd pn f0 1) f0) ((upd us' f0 1) f0) ((upd di' f0 0) f0) (bt' f0) (tb2 dk' (n * 512)) ) (cwV 1 hts (tw_V wi_422 wi_423 wi_424 wi_27 wi_425) rfl rfl rfl (by decide +kernel) ⟨Nat.le_of_ble_eq_true rfl, Nat.le_of_ble_eq_true rfl⟩) ⟨fun a U g mk q => ⟨q.1, q.2.1, tk_E.call q.2.2.1, q.2.2.2⟩, va_recv hK hP (ci := 1) (q0 := (5 + f0)) rfl (dw_fr hf0), fun U hU hW => ⟨rfl, by rw [hU], tk_E.warm hW hE, by rw [hU]; exact (tk_two hP (k := 5 + f0) (k' := 17 + f0) (dw_fr hf0) (dw_fb hf0)), (tk_dtwo hD (k := 5 + f0) (k' := 17 + f0) (dw_fr hf0) (dw_fb hf0) (by omega))⟩⟩ rfl rfl hl.1 rfl (lv_room (Nat.le_of_ble_eq_true rfl)) dB_remake_82 ⟨Nat.zero_le _, Nat.zero_le _⟩) hS (fun q _ h => hFc q h) hFc (fun u_12 t H1 locs ht hvm hw hB hz1 hk1 hS => ?_)
        have hB : va_P (dC, dI) clB [((fr f0), .inr (1, [.ref (fb f0), .int ((upd pg f0 x) f0), .int ((upd pn f0 1) f0), .int ((upd us' f0 1) f0), .int ((upd di' f0 0) f0)])), ((fb f0), .inl (ka 0, 512, .inl (psB (fun _ => 0) (tb2 dk' (n * 512)))))] H1 := by rw [← ht]; exact hB
        obtain ⟨hP, hD⟩ := tk_join2 (k := 5 + f0) (k' := 17 + f0) hP hD (dw_fr hf0) (dw_fb hf0) (by omega) hk1 hB
        generalize H1 = H at hP hS ⊢
        have hP : va_P (dC, dI) clB (dw h dr db lg fa fr fb ka (upd pg f0 x) (upd pn f0 1) (upd us' f0 1) (upd di' f0 0) (va_up bt' f0 (psB (fun _ => 0) (tb2 dk' (n * 512)))) dk' lf' wn' rd en' fl' hd') H := (by rw [← dw_set_fb hf0, ← dw_set_n hf0]; exact hP)
        have hD : va_D A (dw h dr db lg fa fr fb ka (upd pg f0 x) (upd pn f0 1) (upd us' f0 1) (upd di' f0 0) (va_up bt' f0 (psB (fun _ => 0) (tb2 dk' (n * 512)))) dk' lf' wn' rd en' fl' hd') := dw_D hDw
        refine lv_iload_n hx hb dB_remake_85 rfl (lv_at hl 0 rfl) ?_
        exact W.iret (v := (nI f0)) hx hb hr (fun t ht hW => ⟨⟨(nI f0), (), rfl, rfl, by show va_P _ _ _ t.heap; rw [ht]; exact hP⟩, hS.F ht⟩) hS.2.2 dB_remake_86
      · exact absurd c_6 (by decide)
    · exact absurd c_4 (by decide)
  · exact absurd c_2 (by decide)

set_option maxHeartbeats 4000000 in
set_option maxRecDepth 100000 in
theorem c_B_charge_e (l : Launch) (hst : l.stackTraces = false) (dC : Nat → ClassId) (dI : Nat → Nat → Nat) (ka : Nat → ClassId) (sa : Nat → Nat) (sz : Nat) (h dr db lg fa : Nat) (fr fb : Nat → Nat) (pg pn us di : Nat → Int32) (bt : Nat → Nat → Int32) (dk : Nat → Int32) (lf wn rd en fl hd : Int32) (x : Int32) (hx0 : x < 0 ∨ ¬ x ≤ 999) : vx_Met l yB_charge wB_charge ({ frames := 6, cells := 1, slots := 6, locals := 82 }) (va_Pc [.ref h, .int x] (fun U => U.heap.size = sz ∧ tk_E dC dI ka U ∧ tk_X sa U ∧ tk_Z (va_A (dw h dr db lg fa fr fb ka pg pn us di bt dk lf wn rd en fl hd) sz) U U.heap ∧ va_P (dC, dI) clB (dw h dr db lg fa fr fb ka pg pn us di bt dk lf wn rd en fl hd) U.heap ∧ va_D (fun _ => True) (dw h dr db lg fa fr fb ka pg pn us di bt dk lf wn rd en fl hd))) (va_Qv (fun _ : Unit => False) (fun _ _ => True) (va_A (dw h dr db lg fa fr fb ka pg pn us di bt dk lf wn rd en fl hd) sz)) (vx_X (fun _ : Unit => True) (fun E _ t => E = xIAE ∧ va_P (dC, dI) clB (dw h dr db lg fa fr fb ka pg pn us di bt dk lf wn rd en fl hd) t.heap) (va_A (dw h dr db lg fa fr fb ka pg pn us di bt dk lf wn rd en fl hd) sz)) 1 6 (va_A (dw h dr db lg fa fr fb ka pg pn us di bt dk lf wn rd en fl hd) sz) := by
  refine vx_ofW (cc := cB_charge) (maxL := 2) (ret := none) (by decide) rfl ?_
  intro p e s m args below meth c s₁ B hml hT hv
  obtain ⟨rfl, hsz, hE, hXx, hZz, hP, hD0⟩ := hv
  have hx := B.exec
  have hb := B.bytes
  have hr := B.returns
  have hts := atoms_spec (ws := wB_charge) B.pre
  have hq : ∀ w ∈ lwg, w.before _ s = true := fun w h => hts w (List.mem_cons_of_mem _ h)
  have hown : s.vm.findClass RB = some m.cls := findClass_of_methodNamed B.named
  have hlocks := B.notSynchronized
  have hK := hE.1
  have hN := hE.2
  subst hsz
  have hD := hD0.self (sz := s.heap.size)
  generalize hAe : va_A (dw h dr db lg fa fr fb ka pg pn us di bt dk lf wn rd en fl hd) s.heap.size = A at hD hZz ⊢
  have hA : ∀ q : Nat, s.heap.size ≤ q → A q := fun q h => by rw [← hAe]; exact Or.inr h
  have hS : va_S A s.heap s.heap [] := va_S.rf
  have hDw := hD
  have hP : va_P (dC, dI) clB (dw h dr db lg fa fr fb ka pg pn us di bt dk lf wn rd en fl hd) s.heap := hP
  have hl := lv_entry ([.ref h, .int x]) (n := 2) (Nat.le_of_ble_eq_true rfl)
  rw [lg_entry_eq]
  generalize (lg_sl ([.ref h, .int x]) ++ List.replicate (2 - (lg_sl ([.ref h, .int x])).length) Slot.unset).toArray = ls at hl ⊢
  have hl : lv_has ls 2 [(0, .ref h), (1, .int x)] := hl
  refine lv_iload_n hx hb dB_charge_0 rfl (lv_at hl 1 rfl) ?_
  refine lv_if_lt (tgt := 11) hx hb dB_charge_1 (by decide) (fun c_1 => ?_) (fun c_1 => ?_)
  · refine vx_throwS (names := xUp) (text := "n is not 0 .. 999") hx hb hst hown (by decide +kernel) (by decide +kernel) (hq _ wi_223) (hq _ wi_32) (hXx.2 6 _ rfl) (tk_at xg_IAE xb_IAE hq hXx.1) xo_IAE hZz.1 hZz.2 hS (hl.1.trans hml.symm) dB_charge_11 dB_charge_14 dB_charge_15 dB_charge_17 dB_charge_20 (fun z hz => (hT z hz).elim) (Nat.le_of_ble_eq_true rfl) (Nat.le_of_ble_eq_true rfl) (Nat.le_of_ble_eq_true rfl) (Nat.le_of_ble_eq_true rfl) hlocks (fun t hvm9 hz9 hk9 => ⟨(), trivial, ⟨rfl, tk_keptP hP hk9⟩, tk_keptF hS hz9 hk9⟩) hS.2.2 (Nat.le_of_ble_eq_true rfl) (Nat.le_of_ble_eq_true rfl)
  · refine lv_iload_n hx hb dB_charge_4 rfl (lv_at hl 1 rfl) ?_
    refine lv_sipush (v := 999) hx hb dB_charge_5 (by decide) ?_
    refine lv_icmp_le (tgt := 21) hx hb dB_charge_8 (by decide) (fun c_2 => ?_) (fun c_2 => ?_)
    · exact absurd c_2 (hx0.resolve_left c_1)
    · refine vx_throwS (names := xUp) (text := "n is not 0 .. 999") hx hb hst hown (by decide +kernel) (by decide +kernel) (hq _ wi_223) (hq _ wi_32) (hXx.2 6 _ rfl) (tk_at xg_IAE xb_IAE hq hXx.1) xo_IAE hZz.1 hZz.2 hS (hl.1.trans hml.symm) dB_charge_11 dB_charge_14 dB_charge_15 dB_charge_17 dB_charge_20 (fun z hz => (hT z hz).elim) (Nat.le_of_ble_eq_true rfl) (Nat.le_of_ble_eq_true rfl) (Nat.le_of_ble_eq_true rfl) (Nat.le_of_ble_eq_true rfl) hlocks (fun t hvm9 hz9 hk9 => ⟨(), trivial, ⟨rfl, tk_keptP hP hk9⟩, tk_keptF hS hz9 hk9⟩) hS.2.2 (Nat.le_of_ble_eq_true rfl) (Nat.le_of_ble_eq_true rfl)

set_option maxHeartbeats 4000000 in
set_option maxRecDepth 100000 in
theorem c_B_charge_in (l : Launch) (dC : Nat → ClassId) (dI : Nat → Nat → Nat) (ka : Nat → ClassId) (sz : Nat) (h dr db lg fa : Nat) (fr fb : Nat → Nat) (pg pn us di : Nat → Int32) (bt : Nat → Nat → Int32) (dk : Nat → Int32) (lf wn rd en fl hd : Int32) (x : Int32) (hx1 : ¬ x < 0) (hx2 : x ≤ 999) : Met l yB_charge wB_charge ({ frames := 0, cells := 0, slots := 0, locals := 0 }) (va_Pc [.ref h, .int x] (fun U => U.heap.size = sz ∧ tk_E dC dI ka U ∧ va_P (dC, dI) clB (dw h dr db lg fa fr fb ka pg pn us di bt dk lf wn rd en fl hd) U.heap ∧ va_D (fun _ => True) (dw h dr db lg fa fr fb ka pg pn us di bt dk lf wn rd en fl hd))) (va_Qv (fun _ : Unit => True) (fun _ t => va_P (dC, dI) clB (dw h dr db lg fa fr fb ka pg pn us di bt dk x wn rd en fl hd) t.heap) (va_A (dw h dr db lg fa fr fb ka pg pn us di bt dk lf wn rd en fl hd) sz)) 0 0 (va_A (dw h dr db lg fa fr fb ka pg pn us di bt dk lf wn rd en fl hd) sz) := by
  refine Met.ofW (cc := cB_charge) (maxL := 2) (ret := none) (by decide) rfl ?_
  intro p e s m args below meth c s₁ B hml hv
  obtain ⟨rfl, hsz, hE, hP, hD0⟩ := hv
  have hx := B.exec
  have hb := B.bytes
  have hr := B.returns
  have hts := atoms_spec (ws := wB_charge) B.pre
  have hq : ∀ w ∈ lwg, w.before _ s = true := fun w h => hts w (List.mem_cons_of_mem _ h)
  have hown : s.vm.findClass RB = some m.cls := findClass_of_methodNamed B.named
  have hlocks := B.notSynchronized
  have hK := hE.1
  have hN := hE.2
  subst hsz
  have hD := hD0.self (sz := s.heap.size)
  generalize hAe : va_A (dw h dr db lg fa fr fb ka pg pn us di bt dk lf wn rd en fl hd) s.heap.size = A at hD ⊢
  have hA : ∀ q : Nat, s.heap.size ≤ q → A q := fun q h => by rw [← hAe]; exact Or.inr h
  have hS : va_S A s.heap s.heap [] := va_S.rf
  have hDw := hD
  have hP : va_P (dC, dI) clB (dw h dr db lg fa fr fb ka pg pn us di bt dk lf wn rd en fl hd) s.heap := hP
  have hl := lv_entry ([.ref h, .int x]) (n := 2) (Nat.le_of_ble_eq_true rfl)
  rw [lg_entry_eq]
  generalize (lg_sl ([.ref h, .int x]) ++ List.replicate (2 - (lg_sl ([.ref h, .int x])).length) Slot.unset).toArray = ls at hl ⊢
  have hl : lv_has ls 2 [(0, .ref h), (1, .int x)] := hl
  refine lv_iload_n hx hb dB_charge_0 rfl (lv_at hl 1 rfl) ?_
  refine lv_if_lt (tgt := 11) hx hb dB_charge_1 (by decide) (fun c_1 => ?_) (fun c_1 => ?_)
  · exact absurd c_1 hx1
  · refine lv_iload_n hx hb dB_charge_4 rfl (lv_at hl 1 rfl) ?_
    refine lv_sipush (v := 999) hx hb dB_charge_5 (by decide) ?_
    refine lv_icmp_le (tgt := 21) hx hb dB_charge_8 (by decide) (fun c_2 => ?_) (fun c_2 => ?_)
    · refine lv_aload_n hx hb dB_charge_21 rfl (lv_at hl 0 rfl) ?_
      refine va_get (D := (dC, dI)) (ci := 3) (v := .ref dr) (C := RB) (T := TB) (N := 4) hx hb hts (inC inB) hown hK hP 0 rfl rfl 0 (by decide) (hq _ wi_114) (fun _ h9 => h9) rfl dB_charge_22 ?_
      refine lv_iload_n hx hb dB_charge_25 rfl (lv_at hl 1 rfl) ?_
      refine va_putN (D := (dC, dI)) (ci := 0) (v := .int x) (ty := .int) (C := RD) (T := TD) (N := 4) hx hb hts (inC inD) tyD tyD_ok nmD hown hK hP hD hS 1 rfl rfl 1 (by decide) (va_Nw.use rfl (hN _ ns_1)) (fun _ h9 => h9) rfl (by decide +kernel) rfl rfl (Nat.le_of_ble_eq_true rfl) dB_charge_26 (fun H locs hP hD hS => ?_)
      have hP : va_P (dC, dI) clB (dw h dr db lg fa fr fb ka pg pn us di bt dk x wn rd en fl hd) H := hP
      have hD : va_D A (dw h dr db lg fa fr fb ka pg pn us di bt dk x wn rd en fl hd) := dw_D hDw
      exact W.vret hx hb hr (fun t ht hW => ⟨⟨(), rfl, trivial, by show va_P _ _ _ t.heap; rw [ht]; exact hP⟩, hS.F ht⟩) hS.2.2 dB_charge_29
    · exact absurd hx2 c_2

set_option maxHeartbeats 4000000 in
set_option maxRecDepth 100000 in
theorem c_B_clean_e (l : Launch) (hst : l.stackTraces = false) (dC : Nat → ClassId) (dI : Nat → Nat → Nat) (ka : Nat → ClassId) (sa : Nat → Nat) (sz : Nat) (h dr db lg fa : Nat) (fr fb : Nat → Nat) (pg pn us di : Nat → Int32) (bt : Nat → Nat → Int32) (dk : Nat → Int32) (lf wn rd en fl hd : Int32) (x : Int32) (hx0 : x < 1 ∨ ¬ x ≤ 12) : vx_Met l yB_clean wB_clean ({ frames := 6, cells := 1, slots := 6, locals := 82 }) (va_Pc [.ref h, .int x] (fun U => U.heap.size = sz ∧ tk_E dC dI ka U ∧ tk_X sa U ∧ tk_Z (va_A (dw h dr db lg fa fr fb ka pg pn us di bt dk lf wn rd en fl hd) sz) U U.heap ∧ va_P (dC, dI) clB (dw h dr db lg fa fr fb ka pg pn us di bt dk lf wn rd en fl hd) U.heap ∧ va_D (fun _ => True) (dw h dr db lg fa fr fb ka pg pn us di bt dk lf wn rd en fl hd))) (va_Qi (fun (_ : Int32) (_ : Unit) => False) (fun _ _ => True) (va_A (dw h dr db lg fa fr fb ka pg pn us di bt dk lf wn rd en fl hd) sz)) (vx_X (fun _ : Unit => True) (fun E _ t => E = xIAE ∧ va_P (dC, dI) clB (dw h dr db lg fa fr fb ka pg pn us di bt dk lf wn rd en fl hd) t.heap) (va_A (dw h dr db lg fa fr fb ka pg pn us di bt dk lf wn rd en fl hd) sz)) 1 6 (va_A (dw h dr db lg fa fr fb ka pg pn us di bt dk lf wn rd en fl hd) sz) := by
  refine vx_ofW (cc := cB_clean) (maxL := 5) (ret := (some .int)) (by decide) rfl ?_
  intro p e s m args below meth c s₁ B hml hT hv
  obtain ⟨rfl, hsz, hE, hXx, hZz, hP, hD0⟩ := hv
  have hx := B.exec
  have hb := B.bytes
  have hr := B.returns
  have hts := atoms_spec (ws := wB_clean) B.pre
  have hq : ∀ w ∈ lwg, w.before _ s = true := fun w h => hts w (List.mem_cons_of_mem _ h)
  have hown : s.vm.findClass RB = some m.cls := findClass_of_methodNamed B.named
  have hlocks := B.notSynchronized
  have hK := hE.1
  have hN := hE.2
  subst hsz
  have hD := hD0.self (sz := s.heap.size)
  generalize hAe : va_A (dw h dr db lg fa fr fb ka pg pn us di bt dk lf wn rd en fl hd) s.heap.size = A at hD hZz ⊢
  have hA : ∀ q : Nat, s.heap.size ≤ q → A q := fun q h => by rw [← hAe]; exact Or.inr h
  have hS : va_S A s.heap s.heap [] := va_S.rf
  have hDw := hD
  have hP : va_P (dC, dI) clB (dw h dr db lg fa fr fb ka pg pn us di bt dk lf wn rd en fl hd) s.heap := hP
  have hl := lv_entry ([.ref h, .int x]) (n := 5) (Nat.le_of_ble_eq_true rfl)
  rw [lg_entry_eq]
  generalize (lg_sl ([.ref h, .int x]) ++ List.replicate (5 - (lg_sl ([.ref h, .int x])).length) Slot.unset).toArray = ls at hl ⊢
  have hl : lv_has ls 5 [(0, .ref h), (1, .int x)] := hl
  refine lv_iload_n hx hb dB_clean_0 rfl (lv_at hl 1 rfl) ?_
  refine lv_iconst (v := 1) hx hb dB_clean_1 (by decide) ?_
  refine lv_icmp_lt (tgt := 11) hx hb dB_clean_2 (by decide) (fun c_1 => ?_) (fun c_1 => ?_)
  · refine vx_throwS (names := xUp) (text := "n is not 1 .. 12") hx hb hst hown (by decide +kernel) (by decide +kernel) (hq _ wi_223) (hq _ wi_32) (hXx.2 5 _ rfl) (tk_at xg_IAE xb_IAE hq hXx.1) xo_IAE hZz.1 hZz.2 hS (hl.1.trans hml.symm) dB_clean_11 dB_clean_14 dB_clean_15 dB_clean_17 dB_clean_20 (fun z hz => (hT z hz).elim) (Nat.le_of_ble_eq_true rfl) (Nat.le_of_ble_eq_true rfl) (Nat.le_of_ble_eq_true rfl) (Nat.le_of_ble_eq_true rfl) hlocks (fun t hvm9 hz9 hk9 => ⟨(), trivial, ⟨rfl, tk_keptP hP hk9⟩, tk_keptF hS hz9 hk9⟩) hS.2.2 (Nat.le_of_ble_eq_true rfl) (Nat.le_of_ble_eq_true rfl)
  · refine lv_iload_n hx hb dB_clean_5 rfl (lv_at hl 1 rfl) ?_
    refine lv_bipush (v := 12) hx hb dB_clean_6 (by decide) ?_
    refine lv_icmp_le (tgt := 21) hx hb dB_clean_8 (by decide) (fun c_2 => ?_) (fun c_2 => ?_)
    · exact absurd c_2 (hx0.resolve_left c_1)
    · refine vx_throwS (names := xUp) (text := "n is not 1 .. 12") hx hb hst hown (by decide +kernel) (by decide +kernel) (hq _ wi_223) (hq _ wi_32) (hXx.2 5 _ rfl) (tk_at xg_IAE xb_IAE hq hXx.1) xo_IAE hZz.1 hZz.2 hS (hl.1.trans hml.symm) dB_clean_11 dB_clean_14 dB_clean_15 dB_clean_17 dB_clean_20 (fun z hz => (hT z hz).elim) (Nat.le_of_ble_eq_true rfl) (Nat.le_of_ble_eq_true rfl) (Nat.le_of_ble_eq_true rfl) (Nat.le_of_ble_eq_true rfl) hlocks (fun t hvm9 hz9 hk9 => ⟨(), trivial, ⟨rfl, tk_keptP hP hk9⟩, tk_keptF hS hz9 hk9⟩) hS.2.2 (Nat.le_of_ble_eq_true rfl) (Nat.le_of_ble_eq_true rfl)
end
section
/-! STEPS OVER FRAMES AND PAGES: any state, a write of one frame, in the order of the hand or of the pages -/
def cf (q k : Nat) : Nat := (q + k) % 12
theorem cf_lt {q k : Nat} : cf q k < 12 := Nat.mod_lt _ (by decide)
theorem cf_0 {q : Nat} (h : q < 12) : cf q 0 = q := Nat.mod_eq_of_lt h
theorem cf_s (q k : Nat) : nxt (cf q k) = cf q (k + 1) := by
  unfold nxt cf
  split <;> omega
def clG {σ : Type} (act : σ → Nat → Bool) (wr : σ → Nat → σ) (n q : Nat) (X : σ) : Nat → σ × Nat
  | 0 => (X, 0)
  | k + 1 => if (clG act wr n q X k).2 < n ∧ act (clG act wr n q X k).1 (cf q k) = true then (wr (clG act wr n q X k).1 (cf q k), (clG act wr n q X k).2 + 1) else clG act wr n q X k
section CLG
variable {σ : Type} {act : σ → Nat → Bool} {wr : σ → Nat → σ} {n q : Nat} {X : σ}
theorem clG_yes {k : Nat} (h : (clG act wr n q X k).2 < n) (h2 : act (clG act wr n q X k).1 (cf q k) = true) : clG act wr n q X (k + 1) = (wr (clG act wr n q X k).1 (cf q k), (clG act wr n q X k).2 + 1) := if_pos ⟨h, h2⟩
theorem clG_no {k : Nat} (h2 : ¬ act (clG act wr n q X k).1 (cf q k) = true) : clG act wr n q X (k + 1) = clG act wr n q X k := if_neg (fun h => h2 h.2)
theorem clG_full {k : Nat} (h : ¬ (clG act wr n q X k).2 < n) : clG act wr n q X (k + 1) = clG act wr n q X k := if_neg (fun g => h g.1)
theorem clG_stop {k j : Nat} (h : ¬ (clG act wr n q X k).2 < n) : clG act wr n q X (k + j) = clG act wr n q X k := by
  induction j with
  | zero => rfl
  | succ j ih => rw [← Nat.add_assoc, clG_full (by rw [ih]; exact h), ih]
theorem clG_le (k : Nat) : (clG act wr n q X k).2 ≤ k := by
  induction k with
  | zero => exact Nat.le_refl 0
  | succ k ih =>
    unfold clG
    split
    · exact Nat.succ_le_succ ih
    · omega
theorem clG_mono {k j : Nat} (h : k ≤ j) : (clG act wr n q X k).2 ≤ (clG act wr n q X j).2 := by
  induction j with
  | zero => rw [show k = 0 by omega]; exact Nat.le_refl _
  | succ j ih =>
    rcases Nat.lt_or_ge k (j + 1) with g | g
    · refine Nat.le_trans (ih (by omega)) ?_
      conv => rhs; unfold clG
      split
      · exact Nat.le_succ _
      · exact Nat.le_refl _
    · rw [show k = j + 1 by omega]; exact Nat.le_refl _
theorem clG_ind (I : σ → Nat → Prop) (h0 : I X 0) (hs : ∀ Y c f, f < 12 → c < n → act Y f = true → I Y c → I (wr Y f) (c + 1)) (k : Nat) : I (clG act wr n q X k).1 (clG act wr n q X k).2 := by
  induction k with
  | zero => exact h0
  | succ k ih =>
    by_cases h : (clG act wr n q X k).2 < n ∧ act (clG act wr n q X k).1 (cf q k) = true
    · rw [clG_yes h.1 h.2]; exact hs _ _ _ cf_lt h.1 h.2 ih
    · rw [show clG act wr n q X (k + 1) = clG act wr n q X k from if_neg h]; exact ih
end CLG
def swG {σ : Type} (act : σ → Nat → Bool) (wr : σ → Nat → σ) (fo : Nat → Nat) (X : σ) : Nat → σ × Nat
  | 0 => (X, 0)
  | p + 1 => if fo p < 12 ∧ act (swG act wr fo X p).1 (fo p) = true then (wr (swG act wr fo X p).1 (fo p), (swG act wr fo X p).2 + 1) else swG act wr fo X p
section SWG
variable {σ : Type} {act : σ → Nat → Bool} {wr : σ → Nat → σ} {fo : Nat → Nat} {X : σ}
theorem swG_yes {p : Nat} (h : fo p < 12) (h2 : act (swG act wr fo X p).1 (fo p) = true) : swG act wr fo X (p + 1) = (wr (swG act wr fo X p).1 (fo p), (swG act wr fo X p).2 + 1) := if_pos ⟨h, h2⟩
theorem swG_no {p : Nat} (h2 : ¬ (fo p < 12 ∧ act (swG act wr fo X p).1 (fo p) = true)) : swG act wr fo X (p + 1) = swG act wr fo X p := if_neg h2
theorem swG_skip {p j : Nat} (h : ∀ r, p ≤ r → r < p + j → ¬ (fo r < 12 ∧ act (swG act wr fo X p).1 (fo r) = true)) : swG act wr fo X (p + j) = swG act wr fo X p := by
  induction j with
  | zero => rfl
  | succ j ih =>
    have e := ih (fun r h1 h2 => h r h1 (by omega))
    rw [← Nat.add_assoc, swG_no (by rw [e]; exact h (p + j) (by omega) (by omega)), e]
theorem swG_ind (I : σ → Nat → Prop) (h0 : I X 0) (hs : ∀ Y c p, fo p < 12 → act Y (fo p) = true → I Y c → I (wr Y (fo p)) (c + 1)) (p : Nat) : I (swG act wr fo X p).1 (swG act wr fo X p).2 := by
  induction p with
  | zero => exact h0
  | succ p ih =>
    by_cases h : fo p < 12 ∧ act (swG act wr fo X p).1 (fo p) = true
    · rw [swG_yes h.1 h.2]; exact hs _ _ _ h.1 h.2 ih
    · rw [swG_no h]; exact ih
theorem swG_indp (I : Nat → σ → Nat → Prop) (h0 : I 0 X 0) (hs : ∀ p Y c, fo p < 12 → act Y (fo p) = true → I p Y c → I (p + 1) (wr Y (fo p)) (c + 1)) (hn : ∀ p Y c, ¬ (fo p < 12 ∧ act Y (fo p) = true) → I p Y c → I (p + 1) Y c) (p : Nat) : I p (swG act wr fo X p).1 (swG act wr fo X p).2 := by
  induction p with
  | zero => exact h0
  | succ p ih =>
    by_cases h : fo p < 12 ∧ act (swG act wr fo X p).1 (fo p) = true
    · rw [swG_yes h.1 h.2]; exact hs _ _ _ h.1 h.2 ih
    · rw [swG_no h]; exact hn _ _ _ h ih
end SWG
/-- how many of the first z are not 0 -/
def cntD (di : Nat → Int32) : Nat → Nat
  | 0 => 0
  | z + 1 => cntD di z + if di z = 0 then 0 else 1
theorem cntD_le (di : Nat → Int32) (z : Nat) : cntD di z ≤ z := by
  induction z with
  | zero => exact Nat.le_refl 0
  | succ z ih => simp only [cntD]; split <;> omega
theorem cntD_up {di : Nat → Int32} {f : Nat} (hd : ¬ di f = 0) : ∀ z : Nat, cntD (upd di f 0) z + (if f < z then 1 else 0) = cntD di z
  | 0 => by simp [cntD]
  | z + 1 => by
    have ih := cntD_up hd z
    simp only [cntD]
    by_cases e : z = f
    · subst e
      rw [if_neg (Nat.lt_irrefl z)] at ih
      rw [pk_us, if_pos rfl, if_neg hd, if_pos (Nat.lt_succ_self z)]
      omega
    · rw [pk_un e]
      have e2 : (if f < z + 1 then 1 else 0 : Nat) = if f < z then 1 else 0 := by
        by_cases g : f < z
        · rw [if_pos g, if_pos (by omega)]
        · rw [if_neg g, if_neg (by omega)]
      rw [e2]
      omega
theorem cntD_pos {di : Nat → Int32} {f z : Nat} (hd : ¬ di f = 0) (hf : f < z) : 0 < cntD di z := by
  have h := cntD_up hd z
  rw [if_pos hf] at h
  omega
/-! THE DESK's SIDE: dirty marks, bytes, disk, charge, sectors written, log's end, flushes -/
abbrev DS : Type := (Nat → Int32) × (Nat → Nat → Int32) × (Nat → Int32) × Int32 × Int32 × Int32 × Int32
def dwrt (pgN : Nat → Nat) (X : DS) (i : Nat) : DS := (upd X.1 i 0, va_up X.2.1 i (psB (X.2.1 i) (tb2 (X.2.1 i) 0 + 1)), wrD X.2.2.1 ((va_up X.2.1 i (psB (X.2.1 i) (tb2 (X.2.1 i) 0 + 1))) i) (pgN i) 8, lfA X.2.2.2.1 8, X.2.2.2.2.1 + nI 8, (if X.2.2.2.2.2.1 < plB (X.2.1 i) then plB (X.2.1 i) else X.2.2.2.2.2.1), (if X.2.2.2.2.2.1 < plB (X.2.1 i) then X.2.2.2.2.2.2 + 1 else X.2.2.2.2.2.2))
def actC (pn : Nat → Int32) (X : DS) (f : Nat) : Bool := decide (¬ X.1 f = 0 ∧ pn f ≤ 0)
def actS (X : DS) (f : Nat) : Bool := decide (¬ X.1 f = 0)
/-- where it was dirty, and bytes -/
def dsI (di : Nat → Int32) (X : DS) : Prop := ∀ f, f < 12 → (¬ X.1 f = 0 → ¬ di f = 0) ∧ sb_Fit (X.2.1 f)
theorem dsI_wr {di : Nat → Int32} {pgN : Nat → Nat} {X : DS} {i : Nat} (h : dsI di X) (hi : i < 12) : dsI di (dwrt pgN X i) := by
  intro f hf
  refine ⟨fun hd => ?_, ?_⟩
  · by_cases e : f = i
    · subst e; exact absurd pk_us hd
    · exact (h f hf).1 (fun g => hd ((pk_un e).trans g))
  · show sb_Fit (va_up X.2.1 i _ f)
    by_cases e : f = i
    · subst e; rw [va_up_self]; exact fit_psB (h f hf).2
    · rw [va_up_ne _ _ e]; exact (h f hf).2
/-- the charge does for a page -/
def lfOK (lf : Int32) : Prop := ∀ z, z < 8 → ¬ lfA lf z = 0
theorem dlR_ex (pg di : Nat → Int32) : ∀ z : Nat, z ≤ 12 → ∃ r, dlR pg di z r
  | 0, _ => ⟨-1, dlR_0 pg di⟩
  | z + 1, h => by
    obtain ⟨r, hr⟩ := dlR_ex pg di z (by omega)
    by_cases hd : di z = 0
    · exact ⟨r, dlR_clean hr hd⟩
    · rcases dlR_is hr with e | ⟨i, hi, e⟩
      · subst e; exact ⟨nI z, dlR_first hr (by omega) hd⟩
      · subst e
        by_cases hp : pg z < pg i
        · exact ⟨nI z, dlR_less hr (by omega) (by omega) hd hp⟩
        · exact ⟨nI i, dlR_keep hr (by omega) (by omega) hp⟩
end
section
theorem dwrt_eq (pgN : Nat → Nat) (X : DS) (i : Nat) : dwrt pgN X i = (upd X.1 i 0, va_up X.2.1 i (psB (X.2.1 i) (tb2 (X.2.1 i) 0 + 1)), wrD X.2.2.1 ((va_up X.2.1 i (psB (X.2.1 i) (tb2 (X.2.1 i) 0 + 1))) i) (pgN i) 8, lfA X.2.2.2.1 8, X.2.2.2.2.1 + nI 8, (if X.2.2.2.2.2.1 < plB (X.2.1 i) then plB (X.2.1 i) else X.2.2.2.2.2.1), (if X.2.2.2.2.2.1 < plB (X.2.1 i) then X.2.2.2.2.2.2 + 1 else X.2.2.2.2.2.2)) := by unfold dwrt; exact Eq.refl _
/-- which frame has which page -/
def foR (pg di : Nat → Int32) (pgN fo : Nat → Nat) : Prop := (∀ p, p < 192 → fo p < 12 → pg (fo p) = nI p) ∧ ∀ f, f < 12 → ¬ di f = 0 → pg f = nI (pgN f) ∧ pgN f < 192 ∧ fo (pgN f) = f
section SWD
variable {pg : Nat → Int32} {pgN fo : Nat → Nat} {X : DS}
theorem sw_ge (hf : foR pg X.1 pgN fo) (p : Nat) : ∀ f, f < 12 → ¬ (swG actS (dwrt pgN) fo X p).1.1 f = 0 → p ≤ pgN f ∧ ¬ X.1 f = 0 := by
  refine swG_indp (fun (p : Nat) (Z : DS) (_ : Nat) => ∀ f, f < 12 → ¬ Z.1 f = 0 → p ≤ pgN f ∧ ¬ X.1 f = 0) (fun f _ h => ⟨Nat.zero_le _, h⟩) (fun p Y c h1 h2 ih f hf12 hd => ?_) (fun p Y c h ih f hf12 hd => ?_) p
  · have e : f ≠ fo p := fun e => hd (by show upd Y.1 (fo p) 0 f = 0; rw [e]; exact pk_us)
    have g := ih f hf12 (fun g => hd ((pk_un e).trans g))
    refine ⟨?_, g.2⟩
    rcases Nat.lt_or_ge p (pgN f) with h | h
    · exact h
    · exact absurd (by rw [show p = pgN f by omega]; exact (hf.2 f hf12 g.2).2.2.symm) e
  · have g := ih f hf12 hd
    refine ⟨?_, g.2⟩
    rcases Nat.lt_or_ge p (pgN f) with h9 | h9
    · exact h9
    · have e : fo p = f := by rw [show p = pgN f by omega]; exact (hf.2 f hf12 g.2).2.2
      exact absurd ⟨e ▸ hf12, decide_eq_true (by rw [e]; exact hd)⟩ h
theorem sw_dec {p j f : Nat} (h : ¬ (swG actS (dwrt pgN) fo X (p + j)).1.1 f = 0) : ¬ (swG actS (dwrt pgN) fo X p).1.1 f = 0 := by
  induction j with
  | zero => exact h
  | succ j ih =>
    apply ih
    intro g
    apply h
    rw [← Nat.add_assoc]
    by_cases h2 : fo (p + j) < 12 ∧ actS (swG actS (dwrt pgN) fo X (p + j)).1 (fo (p + j)) = true
    · rw [swG_yes h2.1 h2.2]
      show upd _ _ 0 f = 0
      by_cases e : f = fo (p + j)
      · rw [e]; exact pk_us
      · rw [pk_un e]; exact g
    · rw [swG_no h2]; exact g
theorem sw_at {p i : Nat} (hf : foR pg X.1 pgN fo) (hi : i < 12) (hd : ¬ (swG actS (dwrt pgN) fo X p).1.1 i = 0) (hm : ∀ j, j < 12 → ¬ (swG actS (dwrt pgN) fo X p).1.1 j = 0 → pg i ≤ pg j) : swG actS (dwrt pgN) fo X (pgN i) = swG actS (dwrt pgN) fo X p := by
  have g := sw_ge hf p i hi hd
  have g2 := hf.2 i hi g.2
  have h := swG_skip (act := actS) (wr := dwrt pgN) (fo := fo) (X := X) (p := p) (j := pgN i - p) (fun r h1 h2 h3 => by
    have h4 := hm (fo r) h3.1 (of_decide_eq_true h3.2)
    rw [g2.1, hf.1 r (by omega) h3.1] at h4
    have := (nI_leI (by omega) (by omega)).mp h4
    omega)
  rw [show p + (pgN i - p) = pgN i by omega] at h
  exact h
theorem sw_next {p i : Nat} (hf : foR pg X.1 pgN fo) (hi : i < 12) (hd : ¬ (swG actS (dwrt pgN) fo X p).1.1 i = 0) (hm : ∀ j, j < 12 → ¬ (swG actS (dwrt pgN) fo X p).1.1 j = 0 → pg i ≤ pg j) : swG actS (dwrt pgN) fo X (pgN i + 1) = (dwrt pgN (swG actS (dwrt pgN) fo X p).1 i, (swG actS (dwrt pgN) fo X p).2 + 1) := by
  have g := sw_ge hf p i hi hd
  have e := sw_at hf hi hd hm
  have g2 := (hf.2 i hi g.2).2.2
  rw [swG_yes (by rw [g2]; exact hi) (by rw [g2, e]; exact decide_eq_true hd), g2, e]
theorem sw_end {p : Nat} (hp : p ≤ 192) (hz : ∀ i, i < 12 → (swG actS (dwrt pgN) fo X p).1.1 i = 0) : swG actS (dwrt pgN) fo X 192 = swG actS (dwrt pgN) fo X p := by
  have h := swG_skip (act := actS) (wr := dwrt pgN) (fo := fo) (X := X) (p := p) (j := 192 - p) (fun r h1 h2 h3 => of_decide_eq_true h3.2 (hz _ h3.1))
  rw [show p + (192 - p) = 192 by omega] at h
  exact h
theorem sw_cnt (p : Nat) : (swG actS (dwrt pgN) fo X p).2 + cntD (swG actS (dwrt pgN) fo X p).1.1 12 ≤ 12 := by
  refine swG_ind (fun (Z : DS) (c : Nat) => c + cntD Z.1 12 ≤ 12) (by have := cntD_le X.1 12; omega) (fun Y c p h1 h2 ih => ?_) p
  have h := cntD_up (f := fo p) (of_decide_eq_true h2) 12
  rw [if_pos h1] at h
  show c + 1 + cntD (upd Y.1 (fo p) 0) 12 ≤ 12
  omega
end SWD
theorem dsI_0 {X : DS} (hF : ∀ f, f < 12 → sb_Fit (X.2.1 f)) : dsI X.1 X := fun f hf => ⟨fun h => h, hF f hf⟩
theorem cl_dsI {pn : Nat → Int32} {pgN : Nat → Nat} {n q : Nat} {X : DS} (hF : ∀ f, f < 12 → sb_Fit (X.2.1 f)) (k : Nat) : dsI X.1 (clG (actC pn) (dwrt pgN) n q X k).1 :=
  clG_ind (act := actC pn) (wr := dwrt pgN) (n := n) (q := q) (X := X) (fun (Z : DS) (_ : Nat) => dsI X.1 Z) (dsI_0 hF) (fun Y c f hf _ _ h => dsI_wr (pgN := pgN) (X := Y) (i := f) h hf) k
theorem sw_dsI {fo pgN : Nat → Nat} {X : DS} (hF : ∀ f, f < 12 → sb_Fit (X.2.1 f)) (p : Nat) : dsI X.1 (swG actS (dwrt pgN) fo X p).1 :=
  swG_ind (act := actS) (wr := dwrt pgN) (fo := fo) (X := X) (fun (Z : DS) (_ : Nat) => dsI X.1 Z) (dsI_0 hF) (fun Y c p hf _ h => dsI_wr (pgN := pgN) (X := Y) (i := fo p) h hf) p
end
section
set_option maxHeartbeats 4000000 in
set_option maxRecDepth 100000 in
theorem c_B_clean_ok (l : Launch) (dC : Nat → ClassId) (dI : Nat → Nat → Nat) (ka : Nat → ClassId) (sz : Nat) (h dr db lg fa : Nat) (fr fb : Nat → Nat) (pg pn us di : Nat → Int32) (bt : Nat → Nat → Int32) (dk : Nat → Int32) (lf wn rd en fl : Int32) (q : Nat) (x : Int32) (nn : Nat) (pgN : Nat → Nat) (Y : Nat → DS × Nat) (ex : x = nI nn) (h1 : 1 ≤ nn) (h12 : nn ≤ 12) (hq0 : q < 12) (hpN : ∀ f, f < 12 → ¬ di f = 0 → pg f = nI (pgN f) ∧ pgN f < 192) (hF : ∀ f, f < 12 → sb_Fit (bt f)) (hY : ∀ k, Y k = clG (actC pn) (dwrt pgN) nn q (di, bt, dk, lf, wn, en, fl) k) (hok : ∀ k, k < 12 → (Y k).2 < nn → actC pn (Y k).1 (cf q k) = true → lfOK (Y k).1.2.2.2.1) : Met l yB_clean wB_clean ({ frames := 3, cells := 0, slots := 0, locals := 106 }) (va_Pc [.ref h, .int x] (fun U => U.heap.size = sz ∧ tk_E dC dI ka U ∧ va_P (dC, dI) clB (dw h dr db lg fa fr fb ka pg pn us di bt dk lf wn rd en fl (nI q)) U.heap ∧ va_D (fun _ => True) (dw h dr db lg fa fr fb ka pg pn us di bt dk lf wn rd en fl (nI q)))) (va_Qi (fun (r : Int32) (_ : Unit) => r = nI (Y 12).2) (fun _ t => va_P (dC, dI) clB (dw h dr db lg fa fr fb ka pg pn us ((Y 12).1.1) ((Y 12).1.2.1) ((Y 12).1.2.2.1) ((Y 12).1.2.2.2.1) ((Y 12).1.2.2.2.2.1) rd ((Y 12).1.2.2.2.2.2.1) ((Y 12).1.2.2.2.2.2.2) (nI q)) t.heap) (va_A (dw h dr db lg fa fr fb ka pg pn us di bt dk lf wn rd en fl (nI q)) sz)) 0 0 (va_A (dw h dr db lg fa fr fb ka pg pn us di bt dk lf wn rd en fl (nI q)) sz) := by
  refine Met.ofW (cc := cB_clean) (maxL := 5) (ret := (some .int)) (by decide) rfl ?_
  intro p e s m args below meth c s₁ B hml hv
  obtain ⟨rfl, hsz, hE, hP, hD0⟩ := hv
  have hx := B.exec
  have hb := B.bytes
  have hr := B.returns
  have hts := atoms_spec (ws := wB_clean) B.pre
  have hq : ∀ w ∈ lwg, w.before _ s = true := fun w h => hts w (List.mem_cons_of_mem _ h)
  have hown : s.vm.findClass RB = some m.cls := findClass_of_methodNamed B.named
  have hlocks := B.notSynchronized
  have hK := hE.1
  have hN := hE.2
  subst hsz
  have hD := hD0.self (sz := s.heap.size)
  generalize hAe : va_A (dw h dr db lg fa fr fb ka pg pn us di bt dk lf wn rd en fl (nI q)) s.heap.size = A at hD ⊢
  have hA : ∀ q : Nat, s.heap.size ≤ q → A q := fun q h => by rw [← hAe]; exact Or.inr h
  have hS : va_S A s.heap s.heap [] := va_S.rf
  have hDw := hD
  have hP : va_P (dC, dI) clB (dw h dr db lg fa fr fb ka pg pn us di bt dk lf wn rd en fl (nI q)) s.heap := hP
  have hl := lv_entry ([.ref h, .int x]) (n := 5) (Nat.le_of_ble_eq_true rfl)
  rw [lg_entry_eq]
  generalize (lg_sl ([.ref h, .int x]) ++ List.replicate (5 - (lg_sl ([.ref h, .int x])).length) Slot.unset).toArray = ls at hl ⊢
  have hl : lv_has ls 5 [(0, .ref h), (1, .int x)] := hl
  refine lv_iload_n hx hb dB_clean_0 rfl (lv_at hl 1 rfl) ?_
  refine lv_iconst (v := 1) hx hb dB_clean_1 (by decide) ?_
  refine lv_icmp_lt (tgt := 11) hx hb dB_clean_2 (by decide) (fun c_1 => ?_) (fun c_1 => ?_)
  · exact absurd c_1 (by rw [ex]; exact nI_nlt (b := 1) h1 (by omega))
  · refine lv_iload_n hx hb dB_clean_5 rfl (lv_at hl 1 rfl) ?_
    refine lv_bipush (v := 12) hx hb dB_clean_6 (by decide) ?_
    refine lv_icmp_le (tgt := 21) hx hb dB_clean_8 (by decide) (fun c_2 => ?_) (fun c_2 => ?_)
    · refine lv_iconst (v := 0) hx hb dB_clean_21 (by decide) ?_
      refine lv_istore_n (lv' := [(2, .int 0), (0, .ref h), (1, .int x)]) hx hb dB_clean_22 rfl hl (by decide) rfl (fun ls hl => ?_)
      refine lv_aload_n hx hb dB_clean_23 rfl (lv_at hl 1 rfl) ?_
      refine va_get (D := (dC, dI)) (ci := 3) (v := .int (nI q)) (C := RB) (T := TB) (N := 4) hx hb hts (inC inB) hown hK hP 0 rfl rfl 3 (by decide) (hq _ wi_117) (fun _ h9 => h9) rfl dB_clean_24 ?_
      refine lv_istore_n (lv' := [(3, .int (nI q)), (2, .int 0), (0, .ref h), (1, .int x)]) hx hb dB_clean_27 rfl hl (by decide) rfl (fun ls hl => ?_)
      refine lv_iconst (v := 0) hx hb dB_clean_28 (by decide) ?_
      refine lv_istore (lv' := [(4, .int 0), (3, .int (nI q)), (2, .int 0), (0, .ref h), (1, .int x)]) hx hb dB_clean_29 hl (by decide) rfl (fun ls hl => ?_)
      have hDI : ∀ k, dsI di (Y k).1 := fun k => by rw [hY]; exact cl_dsI (X := (di, bt, dk, lf, wn, en, fl)) hF k
      have hY0 : Y 0 = ((di, bt, dk, lf, wn, en, fl), 0) := hY 0
      refine tk_loop 31 (fun (n : Nat) (k : Nat) H locs ls => (k ≤ 12) ∧ (n = 12 - k) ∧ va_P (dC, dI) clB (dw h dr db lg fa fr fb ka pg pn us ((Y k).1.1) ((Y k).1.2.1) ((Y k).1.2.2.1) ((Y k).1.2.2.2.1) ((Y k).1.2.2.2.2.1) rd ((Y k).1.2.2.2.2.2.1) ((Y k).1.2.2.2.2.2.2) (nI q)) H ∧ va_D A (dw h dr db lg fa fr fb ka pg pn us ((Y k).1.1) ((Y k).1.2.1) ((Y k).1.2.2.1) ((Y k).1.2.2.2.1) ((Y k).1.2.2.2.2.1) rd ((Y k).1.2.2.2.2.2.1) ((Y k).1.2.2.2.2.2.2) (nI q)) ∧ va_S A s.heap H locs ∧ lv_has ls 5 [(0, .ref h), (1, .int x), (2, .int (nI (Y k).2)), (3, .int (nI (cf q k))), (4, .int (nI k))]) ?_ 12 0 ⟨Nat.zero_le _, rfl, (by rw [hY0]; exact hP), (dw_D hDw), hS, lv_sub hl [3, 4, 2, 1, 0] (by rw [cf_0 hq0, hY0]; rfl)⟩
      skip
      intro n k H locs ls hI ih
      obtain ⟨hi, hn, hP, hD, hS, hl⟩ := hI
      have hle : (Y k).2 ≤ k := by rw [hY]; exact clG_le k
      refine lv_iload hx hb dB_clean_31 (lv_at hl 4 rfl) ?_
      refine lv_bipush (v := 12) hx hb dB_clean_33 (by decide) ?_
      refine lv_icmp_ge (tgt := 91) hx hb dB_clean_35 (by decide) (fun c_3 => ?_) (fun c_3 => ?_)
      · have hfin : Y 12 = Y k := by rw [show k = 12 by (have := (nI_leI (a := 12) (b := k) (by decide) (by omega)).mp c_3; omega)]
        refine lv_iload_n hx hb dB_clean_91 rfl (lv_at hl 2 rfl) ?_
        exact W.iret (v := (nI (Y k).2)) hx hb hr (fun t ht hW => ⟨⟨(nI (Y k).2), (), rfl, (by rw [hfin]), by show va_P _ _ _ t.heap; rw [ht]; exact (by rw [hfin]; exact hP)⟩, hS.F ht⟩) hS.2.2 dB_clean_92
      · refine lv_iload_n hx hb dB_clean_38 rfl (lv_at hl 2 rfl) ?_
        refine lv_iload_n hx hb dB_clean_39 rfl (lv_at hl 1 rfl) ?_
        refine lv_icmp_ge (tgt := 91) hx hb dB_clean_40 (by decide) (fun c_4 => ?_) (fun c_4 => ?_)
        · have hfin : Y 12 = Y k := by have h9 := clG_stop (act := actC pn) (wr := dwrt pgN) (n := nn) (q := q) (X := (di, bt, dk, lf, wn, en, fl)) (k := k) (j := 12 - k) (by rw [← hY]; exact fun h => absurd c_4 (by rw [ex]; exact nI_ge h (by omega))); rw [show k + (12 - k) = 12 by omega, ← hY, ← hY] at h9; exact h9
          refine lv_iload_n hx hb dB_clean_91 rfl (lv_at hl 2 rfl) ?_
          exact W.iret (v := (nI (Y k).2)) hx hb hr (fun t ht hW => ⟨⟨(nI (Y k).2), (), rfl, (by rw [hfin]), by show va_P _ _ _ t.heap; rw [ht]; exact (by rw [hfin]; exact hP)⟩, hS.F ht⟩) hS.2.2 dB_clean_92
        · have hz : k < 12 := by have := mt (nI_leI (a := 12) (b := k) (by decide) (by omega)).mpr c_3; omega
          have hlt : (Y k).2 < nn := by rcases Nat.lt_or_ge (Y k).2 nn with g | g; exact g; exact absurd (by rw [ex]; exact nI_le g (by omega)) c_4
          refine lv_aload_n hx hb dB_clean_43 rfl (lv_at hl 0 rfl) ?_
          refine va_get (D := (dC, dI)) (ci := 3) (v := .ref fa) (C := RB) (T := TB) (N := 4) hx hb hts (inC inB) hown hK hP 0 rfl rfl 2 (by decide) (hq _ wi_116) (fun _ h9 => h9) rfl dB_clean_44 ?_
          refine lv_iload_n hx hb dB_clean_47 rfl (lv_at hl 3 rfl) ?_
          refine tk_aald (n := (cf q k)) (y := fr (cf q k)) hx hb hK hP 4 1 rfl rfl rfl cf_lt (by decide) rfl dB_clean_48 ?_
          refine va_getN (D := (dC, dI)) (ci := 1) (v := .int (((Y k).1.1) (cf q k))) (C := RF) (T := TF) (N := 5) hx hb hts (inC inF) hown hK hP (5 + (cf q k)) (dw_fr cf_lt) rfl 4 (by decide) (va_Nw.use rfl (hN _ ns_12)) (fun _ h9 => h9) rfl dB_clean_49 ?_
          refine lv_if_eq (tgt := 80) hx hb dB_clean_52 (by decide) (fun c_5 => ?_) (fun c_5 => ?_)
          · refine lv_iload_n hx hb dB_clean_80 rfl (lv_at hl 3 rfl) ?_
            refine vp_callSi (va_Run.run (va_runS (As := [.int (nI (cf q k))]) (rest := []) ⟨hx, hb, hml, hown, hts⟩ (c_B_frameBehind l dC dI ka (nI (cf q k))) (cwS 1 hts (tw_S wi_354 wi_355 wi_24 wi_356) rfl rfl rfl (by decide +kernel) ⟨Nat.le_of_ble_eq_true rfl, Nat.le_of_ble_eq_true rfl⟩) ⟨fun a U g mk q => ⟨q.1, tk_E.call q.2.1, q.2.2⟩, fun U hU hW => ⟨rfl, tk_E.warm hW hE, by rw [hU]; exact (fun k q h => by simp at h)⟩⟩ rfl rfl hl.1 rfl (lv_room (Nat.le_of_ble_eq_true rfl)) dB_clean_81 ⟨Nat.zero_le _, Nat.zero_le _⟩)) (fun r_6 er_6 => ?_)
            replace er_6 := er_6.trans ((nxt_nI cf_lt).trans (congrArg nI (cf_s q k)))
            subst er_6
            refine lv_istore_n (lv' := [(3, .int (nI (cf q (k + 1)))), (0, .ref h), (1, .int x), (2, .int (nI (Y k).2)), (4, .int (nI k))]) hx hb dB_clean_84 rfl hl (by decide) rfl (fun ls hl => ?_)
            refine lv_iinc (v := ((nI k) + 1)) (lv' := [(4, .int ((nI k) + 1)), (3, .int (nI (cf q (k + 1)))), (0, .ref h), (1, .int x), (2, .int (nI (Y k).2))]) hx hb dB_clean_85 hl (k := 4) rfl rfl (by decide) rfl (fun ls hl => ?_)
            refine lv_goto (tgt := 31) hx hb dB_clean_88 (by decide) ?_
            have e : Y (k + 1) = Y k := by rw [hY, hY]; exact clG_no (by rw [← hY]; exact fun h => (of_decide_eq_true h).1 c_5)
            have e2 : (Y (k + 1)).2 = (Y k).2 := by rw [e]
            exact ih (n - 1) (k + 1) _ _ _ (by omega) ⟨by omega, by omega, (by rw [e]; exact hP), (dw_D hDw), hS, lv_sub hl [2, 3, 4, 1, 0] (by rw [e2, ← nI_1 k]; rfl)⟩
          · refine lv_aload_n hx hb dB_clean_55 rfl (lv_at hl 0 rfl) ?_
            refine va_get (D := (dC, dI)) (ci := 3) (v := .ref fa) (C := RB) (T := TB) (N := 4) hx hb hts (inC inB) hown hK hP 0 rfl rfl 2 (by decide) (hq _ wi_116) (fun _ h9 => h9) rfl dB_clean_56 ?_
            refine lv_iload_n hx hb dB_clean_59 rfl (lv_at hl 3 rfl) ?_
            refine tk_aald (n := (cf q k)) (y := fr (cf q k)) hx hb hK hP 4 1 rfl rfl rfl cf_lt (by decide) rfl dB_clean_60 ?_
            refine vp_callSi (va_Run.run (va_runV (As := []) (rest := []) ⟨hx, hb, hml, hown, hts⟩ (c_F_hasPins l dC dI ka (fr (cf q k)) (fb (cf q k)) (pg (cf q k)) (pn (cf q k)) (us (cf q k)) (((Y k).1.1) (cf q k))) (cwV 0 hts (tw_V wi_134 wi_135 wi_136 wi_27 wi_137) rfl rfl rfl (by decide +kernel) ⟨Nat.le_of_ble_eq_true rfl, Nat.le_of_ble_eq_true rfl⟩) ⟨fun a U g mk q => ⟨q.1, tk_E.call q.2.1, q.2.2⟩, va_recv hK hP (ci := 1) (q0 := (5 + (cf q k))) rfl (dw_fr cf_lt), fun U hU hW => ⟨rfl, tk_E.warm hW hE, by rw [hU]; exact (tk_one hP (k := 5 + (cf q k)) (dw_fr cf_lt))⟩⟩ rfl rfl hl.1 rfl (lv_room (Nat.le_of_ble_eq_true rfl)) dB_clean_61 ⟨Nat.zero_le _, Nat.zero_le _⟩)) (fun r_7 er_7 => ?_)
            subst er_7
            refine lv_if_ne (tgt := 80) hx hb dB_clean_64 (by decide) (fun c_8 => ?_) (fun c_8 => ?_)
            · refine lv_iload_n hx hb dB_clean_80 rfl (lv_at hl 3 rfl) ?_
              refine vp_callSi (va_Run.run (va_runS (As := [.int (nI (cf q k))]) (rest := []) ⟨hx, hb, hml, hown, hts⟩ (c_B_frameBehind l dC dI ka (nI (cf q k))) (cwS 1 hts (tw_S wi_354 wi_355 wi_24 wi_356) rfl rfl rfl (by decide +kernel) ⟨Nat.le_of_ble_eq_true rfl, Nat.le_of_ble_eq_true rfl⟩) ⟨fun a U g mk q => ⟨q.1, tk_E.call q.2.1, q.2.2⟩, fun U hU hW => ⟨rfl, tk_E.warm hW hE, by rw [hU]; exact (fun k q h => by simp at h)⟩⟩ rfl rfl hl.1 rfl (lv_room (Nat.le_of_ble_eq_true rfl)) dB_clean_81 ⟨Nat.zero_le _, Nat.zero_le _⟩)) (fun r_9 er_9 => ?_)
              replace er_9 := er_9.trans ((nxt_nI cf_lt).trans (congrArg nI (cf_s q k)))
              subst er_9
              refine lv_istore_n (lv' := [(3, .int (nI (cf q (k + 1)))), (0, .ref h), (1, .int x), (2, .int (nI (Y k).2)), (4, .int (nI k))]) hx hb dB_clean_84 rfl hl (by decide) rfl (fun ls hl => ?_)
              refine lv_iinc (v := ((nI k) + 1)) (lv' := [(4, .int ((nI k) + 1)), (3, .int (nI (cf q (k + 1)))), (0, .ref h), (1, .int x), (2, .int (nI (Y k).2))]) hx hb dB_clean_85 hl (k := 4) rfl rfl (by decide) rfl (fun ls hl => ?_)
              refine lv_goto (tgt := 31) hx hb dB_clean_88 (by decide) ?_
              have e : Y (k + 1) = Y k := by rw [hY, hY]; exact clG_no (by rw [← hY]; exact fun h => tk_b1 c_8 (of_decide_eq_true h).2)
              have e2 : (Y (k + 1)).2 = (Y k).2 := by rw [e]
              exact ih (n - 1) (k + 1) _ _ _ (by omega) ⟨by omega, by omega, (by rw [e]; exact hP), (dw_D hDw), hS, lv_sub hl [2, 3, 4, 1, 0] (by rw [e2, ← nI_1 k]; rfl)⟩
            · have hdk := c_5
              have hpk := tk_b0 c_8
              refine lv_aload_n hx hb dB_clean_67 rfl (lv_at hl 0 rfl) ?_
              refine lv_aload_n hx hb dB_clean_68 rfl (lv_at hl 0 rfl) ?_
              refine va_get (D := (dC, dI)) (ci := 3) (v := .ref fa) (C := RB) (T := TB) (N := 4) hx hb hts (inC inB) hown hK hP 0 rfl rfl 2 (by decide) (hq _ wi_116) (fun _ h9 => h9) rfl dB_clean_69 ?_
              refine lv_iload_n hx hb dB_clean_72 rfl (lv_at hl 3 rfl) ?_
              refine tk_aald (n := (cf q k)) (y := fr (cf q k)) hx hb hK hP 4 1 rfl rfl rfl cf_lt (by decide) rfl dB_clean_73 ?_
              have hFc := tk_freeW hD hS hA
              refine va_callv (va_runV (As := [.ref (fr (cf q k))]) (rest := []) ⟨hx, hb, hml, hown, hts⟩ (c_B_writePageOf_ok l dC dI ka _ h dr db lg fa fr fb pg pn us ((Y k).1.1) ((Y k).1.2.1) ((Y k).1.2.2.1) ((Y k).1.2.2.2.1) ((Y k).1.2.2.2.2.1) rd ((Y k).1.2.2.2.2.2.1) ((Y k).1.2.2.2.2.2.2) (nI q) (cf q k) (pgN (cf q k)) cf_lt (hpN _ cf_lt ((hDI k _ cf_lt).1 hdk)).1 (hpN _ cf_lt ((hDI k _ cf_lt).1 hdk)).2 (hDI k _ cf_lt).2 (hok k (by omega) hlt (decide_eq_true ⟨hdk, hpk⟩))) (cwV 1 hts (tw_V wi_357 wi_359 wi_6 wi_24 wi_360) rfl rfl rfl (by decide +kernel) ⟨Nat.le_of_ble_eq_true rfl, Nat.le_of_ble_eq_true rfl⟩) ⟨fun a U g mk q => ⟨q.1, q.2.1, tk_E.call q.2.2.1, q.2.2.2⟩, va_recv hK hP (ci := 3) (q0 := 0) rfl rfl, fun U hU hW => ⟨rfl, by rw [hU], tk_E.warm hW hE, by rw [hU]; exact hP, hD.weaken (fun _ _ _ _ => trivial)⟩⟩ rfl rfl hl.1 rfl (lv_room (Nat.le_of_ble_eq_true rfl)) dB_clean_74 ⟨Nat.zero_le _, Nat.zero_le _⟩) hS (fun q _ h => hFc q h) hFc (fun u_10 t H1 locs ht hvm hw hB hz1 hk1 hS => ?_)
              have hB : va_P (dC, dI) clB (dw h dr db lg fa fr fb ka pg pn us (upd ((Y k).1.1) (cf q k) 0) (va_up ((Y k).1.2.1) (cf q k) (psB (((Y k).1.2.1) (cf q k)) (tb2 (((Y k).1.2.1) (cf q k)) 0 + 1))) (wrD ((Y k).1.2.2.1) ((va_up ((Y k).1.2.1) (cf q k) (psB (((Y k).1.2.1) (cf q k)) (tb2 (((Y k).1.2.1) (cf q k)) 0 + 1))) (cf q k)) (pgN (cf q k)) 8) (lfA ((Y k).1.2.2.2.1) 8) ((Y k).1.2.2.2.2.1 + nI 8) rd (if (Y k).1.2.2.2.2.2.1 < (plB (((Y k).1.2.1) (cf q k))) then (plB (((Y k).1.2.1) (cf q k))) else (Y k).1.2.2.2.2.2.1) (if (Y k).1.2.2.2.2.2.1 < (plB (((Y k).1.2.1) (cf q k))) then (Y k).1.2.2.2.2.2.2 + 1 else (Y k).1.2.2.2.2.2.2) (nI q)) H1 := by rw [← ht]; exact hB
              obtain ⟨hP, hD⟩ := (⟨hB, dw_D hDw⟩ : va_P (dC, dI) clB (dw h dr db lg fa fr fb ka pg pn us (upd ((Y k).1.1) (cf q k) 0) (va_up ((Y k).1.2.1) (cf q k) (psB (((Y k).1.2.1) (cf q k)) (tb2 (((Y k).1.2.1) (cf q k)) 0 + 1))) (wrD ((Y k).1.2.2.1) ((va_up ((Y k).1.2.1) (cf q k) (psB (((Y k).1.2.1) (cf q k)) (tb2 (((Y k).1.2.1) (cf q k)) 0 + 1))) (cf q k)) (pgN (cf q k)) 8) (lfA ((Y k).1.2.2.2.1) 8) ((Y k).1.2.2.2.2.1 + nI 8) rd (if (Y k).1.2.2.2.2.2.1 < (plB (((Y k).1.2.1) (cf q k))) then (plB (((Y k).1.2.1) (cf q k))) else (Y k).1.2.2.2.2.2.1) (if (Y k).1.2.2.2.2.2.1 < (plB (((Y k).1.2.1) (cf q k))) then (Y k).1.2.2.2.2.2.2 + 1 else (Y k).1.2.2.2.2.2.2) (nI q)) H1 ∧ va_D A (dw h dr db lg fa fr fb ka pg pn us (upd ((Y k).1.1) (cf q k) 0) (va_up ((Y k).1.2.1) (cf q k) (psB (((Y k).1.2.1) (cf q k)) (tb2 (((Y k).1.2.1) (cf q k)) 0 + 1))) (wrD ((Y k).1.2.2.1) ((va_up ((Y k).1.2.1) (cf q k) (psB (((Y k).1.2.1) (cf q k)) (tb2 (((Y k).1.2.1) (cf q k)) 0 + 1))) (cf q k)) (pgN (cf q k)) 8) (lfA ((Y k).1.2.2.2.1) 8) ((Y k).1.2.2.2.2.1 + nI 8) rd (if (Y k).1.2.2.2.2.2.1 < (plB (((Y k).1.2.1) (cf q k))) then (plB (((Y k).1.2.1) (cf q k))) else (Y k).1.2.2.2.2.2.1) (if (Y k).1.2.2.2.2.2.1 < (plB (((Y k).1.2.1) (cf q k))) then (Y k).1.2.2.2.2.2.2 + 1 else (Y k).1.2.2.2.2.2.2) (nI q)))
              generalize H1 = H at hP hS ⊢
              have hP : va_P (dC, dI) clB (dw h dr db lg fa fr fb ka pg pn us (upd ((Y k).1.1) (cf q k) 0) (va_up ((Y k).1.2.1) (cf q k) (psB (((Y k).1.2.1) (cf q k)) (tb2 (((Y k).1.2.1) (cf q k)) 0 + 1))) (wrD ((Y k).1.2.2.1) ((va_up ((Y k).1.2.1) (cf q k) (psB (((Y k).1.2.1) (cf q k)) (tb2 (((Y k).1.2.1) (cf q k)) 0 + 1))) (cf q k)) (pgN (cf q k)) 8) (lfA ((Y k).1.2.2.2.1) 8) ((Y k).1.2.2.2.2.1 + nI 8) rd (if (Y k).1.2.2.2.2.2.1 < (plB (((Y k).1.2.1) (cf q k))) then (plB (((Y k).1.2.1) (cf q k))) else (Y k).1.2.2.2.2.2.1) (if (Y k).1.2.2.2.2.2.1 < (plB (((Y k).1.2.1) (cf q k))) then (Y k).1.2.2.2.2.2.2 + 1 else (Y k).1.2.2.2.2.2.2) (nI q)) H := hP
              have hD : va_D A (dw h dr db lg fa fr fb ka pg pn us (upd ((Y k).1.1) (cf q k) 0) (va_up ((Y k).1.2.1) (cf q k) (psB (((Y k).1.2.1) (cf q k)) (tb2 (((Y k).1.2.1) (cf q k)) 0 + 1))) (wrD ((Y k).1.2.2.1) ((va_up ((Y k).1.2.1) (cf q k) (psB (((Y k).1.2.1) (cf q k)) (tb2 (((Y k).1.2.1) (cf q k)) 0 + 1))) (cf q k)) (pgN (cf q k)) 8) (lfA ((Y k).1.2.2.2.1) 8) ((Y k).1.2.2.2.2.1 + nI 8) rd (if (Y k).1.2.2.2.2.2.1 < (plB (((Y k).1.2.1) (cf q k))) then (plB (((Y k).1.2.1) (cf q k))) else (Y k).1.2.2.2.2.2.1) (if (Y k).1.2.2.2.2.2.1 < (plB (((Y k).1.2.1) (cf q k))) then (Y k).1.2.2.2.2.2.2 + 1 else (Y k).1.2.2.2.2.2.2) (nI q)) := dw_D hDw
              refine lv_iinc (v := ((nI (Y k).2) + 1)) (lv' := [(2, .int ((nI (Y k).2) + 1)), (0, .ref h), (1, .int x), (3, .int (nI (cf q k))), (4, .int (nI k))]) hx hb dB_clean_77 hl (k := 2) rfl rfl (by decide) rfl (fun ls hl => ?_)
              refine lv_iload_n hx hb dB_clean_80 rfl (lv_at hl 3 rfl) ?_
              refine vp_callSi (va_Run.run (va_runS (As := [.int (nI (cf q k))]) (rest := []) ⟨hx, hb, hml, hown, hts⟩ (c_B_frameBehind l dC dI ka (nI (cf q k))) (cwS 1 hts (tw_S wi_354 wi_355 wi_24 wi_356) rfl rfl rfl (by decide +kernel) ⟨Nat.le_of_ble_eq_true rfl, Nat.le_of_ble_eq_true rfl⟩) ⟨fun a U g mk q => ⟨q.1, tk_E.call q.2.1, q.2.2⟩, fun U hU hW => ⟨rfl, tk_E.warm hW hE, by rw [hU]; exact (fun k q h => by simp at h)⟩⟩ rfl rfl hl.1 rfl (lv_room (Nat.le_of_ble_eq_true rfl)) dB_clean_81 ⟨Nat.zero_le _, Nat.zero_le _⟩)) (fun r_12 er_12 => ?_)
              replace er_12 := er_12.trans ((nxt_nI cf_lt).trans (congrArg nI (cf_s q k)))
              subst er_12
              refine lv_istore_n (lv' := [(3, .int (nI (cf q (k + 1)))), (2, .int ((nI (Y k).2) + 1)), (0, .ref h), (1, .int x), (4, .int (nI k))]) hx hb dB_clean_84 rfl hl (by decide) rfl (fun ls hl => ?_)
              refine lv_iinc (v := ((nI k) + 1)) (lv' := [(4, .int ((nI k) + 1)), (3, .int (nI (cf q (k + 1)))), (2, .int ((nI (Y k).2) + 1)), (0, .ref h), (1, .int x)]) hx hb dB_clean_85 hl (k := 4) rfl rfl (by decide) rfl (fun ls hl => ?_)
              refine lv_goto (tgt := 31) hx hb dB_clean_88 (by decide) ?_
              have e : Y (k + 1) = (dwrt pgN (Y k).1 (cf q k), (Y k).2 + 1) := by rw [hY, hY]; exact clG_yes (by rw [← hY]; exact hlt) (by rw [← hY]; exact decide_eq_true ⟨hdk, hpk⟩)
              have e2 : (Y (k + 1)).2 = (Y k).2 + 1 := by rw [e]
              have qdi : (Y (k + 1)).1.1 = (upd ((Y k).1.1) (cf q k) 0) := by rw [e, dwrt_eq]
              have qbt : (Y (k + 1)).1.2.1 = (va_up ((Y k).1.2.1) (cf q k) (psB (((Y k).1.2.1) (cf q k)) (tb2 (((Y k).1.2.1) (cf q k)) 0 + 1))) := by rw [e, dwrt_eq]
              have qdk : (Y (k + 1)).1.2.2.1 = (wrD ((Y k).1.2.2.1) ((va_up ((Y k).1.2.1) (cf q k) (psB (((Y k).1.2.1) (cf q k)) (tb2 (((Y k).1.2.1) (cf q k)) 0 + 1))) (cf q k)) (pgN (cf q k)) 8) := by rw [e, dwrt_eq]
              have qlf : (Y (k + 1)).1.2.2.2.1 = (lfA ((Y k).1.2.2.2.1) 8) := by rw [e, dwrt_eq]
              have qwn : (Y (k + 1)).1.2.2.2.2.1 = ((Y k).1.2.2.2.2.1 + nI 8) := by rw [e, dwrt_eq]
              have qen : (Y (k + 1)).1.2.2.2.2.2.1 = (if (Y k).1.2.2.2.2.2.1 < (plB (((Y k).1.2.1) (cf q k))) then (plB (((Y k).1.2.1) (cf q k))) else (Y k).1.2.2.2.2.2.1) := by rw [e, dwrt_eq]
              have qfl : (Y (k + 1)).1.2.2.2.2.2.2 = (if (Y k).1.2.2.2.2.2.1 < (plB (((Y k).1.2.1) (cf q k))) then (Y k).1.2.2.2.2.2.2 + 1 else (Y k).1.2.2.2.2.2.2) := by rw [e, dwrt_eq]
              exact ih (n - 1) (k + 1) _ _ _ (by omega) ⟨by omega, by omega, (by rw [qdi, qbt, qdk, qlf, qwn, qen, qfl]; exact hP), (dw_D hDw), hS, lv_sub hl [3, 4, 2, 1, 0] (by rw [e2, ← nI_1 k, ← nI_1 (Y k).2]; rfl)⟩
    · exact absurd (by rw [ex]; exact nI_le (b := 12) h12 (by decide)) c_2
end
section
set_option maxHeartbeats 4000000 in
set_option maxRecDepth 100000 in
theorem c_B_clean_cut (l : Launch) (hst : l.stackTraces = false) (dC : Nat → ClassId) (dI : Nat → Nat → Nat) (ka : Nat → ClassId) (sa : Nat → Nat) (sz : Nat) (h dr db lg fa : Nat) (fr fb : Nat → Nat) (pg pn us di : Nat → Int32) (bt : Nat → Nat → Int32) (dk : Nat → Int32) (lf wn rd en fl : Int32) (q : Nat) (x : Int32) (nn kc mm : Nat) (pgN : Nat → Nat) (Y : Nat → DS × Nat) (ex : x = nI nn) (h1 : 1 ≤ nn) (h12 : nn ≤ 12) (hq0 : q < 12) (hpN : ∀ f, f < 12 → ¬ di f = 0 → pg f = nI (pgN f) ∧ pgN f < 192) (hF : ∀ f, f < 12 → sb_Fit (bt f)) (hY : ∀ k, Y k = clG (actC pn) (dwrt pgN) nn q (di, bt, dk, lf, wn, en, fl) k) (hok : ∀ k, k < kc → (Y k).2 < nn → actC pn (Y k).1 (cf q k) = true → lfOK (Y k).1.2.2.2.1) (hkc : kc < 12) (hlc : (Y kc).2 < nn) (hac : actC pn (Y kc).1 (cf q kc) = true) (hm8 : mm < 8) (hnz : ∀ z, z < mm → ¬ lfA (Y kc).1.2.2.2.1 z = 0) (h0 : lfA (Y kc).1.2.2.2.1 mm = 0) : vx_Met l yB_clean wB_clean ({ frames := 7, cells := 1, slots := 6, locals := 106 }) (va_Pc [.ref h, .int x] (fun U => U.heap.size = sz ∧ tk_E dC dI ka U ∧ tk_X sa U ∧ tk_Z (va_A (dw h dr db lg fa fr fb ka pg pn us di bt dk lf wn rd en fl (nI q)) sz) U U.heap ∧ va_P (dC, dI) clB (dw h dr db lg fa fr fb ka pg pn us di bt dk lf wn rd en fl (nI q)) U.heap ∧ va_D (fun _ => True) (dw h dr db lg fa fr fb ka pg pn us di bt dk lf wn rd en fl (nI q)))) (va_Qi (fun (_ : Int32) (_ : Unit) => False) (fun _ _ => True) (va_A (dw h dr db lg fa fr fb ka pg pn us di bt dk lf wn rd en fl (nI q)) sz)) (vx_X (fun _ : Unit => True) (fun E _ t => E = xUOE ∧ va_P (dC, dI) clB (dw h dr db lg fa fr fb ka (dropF (-1) pg 12) (dropF 0 pn 12) (dropF 0 us 12) (dropF 0 ((Y kc).1.1) 12) (va_up ((Y kc).1.2.1) (cf q kc) (psB (((Y kc).1.2.1) (cf q kc)) (tb2 (((Y kc).1.2.1) (cf q kc)) 0 + 1))) (wrD ((Y kc).1.2.2.1) ((va_up ((Y kc).1.2.1) (cf q kc) (psB (((Y kc).1.2.1) (cf q kc)) (tb2 (((Y kc).1.2.1) (cf q kc)) 0 + 1))) (cf q kc)) (pgN (cf q kc)) mm) (-1) ((Y kc).1.2.2.2.2.1 + nI mm) rd (if (Y kc).1.2.2.2.2.2.1 < (plB (((Y kc).1.2.1) (cf q kc))) then (plB (((Y kc).1.2.1) (cf q kc))) else (Y kc).1.2.2.2.2.2.1) (if (Y kc).1.2.2.2.2.2.1 < (plB (((Y kc).1.2.1) (cf q kc))) then (Y kc).1.2.2.2.2.2.2 + 1 else (Y kc).1.2.2.2.2.2.2) 0) t.heap) (va_A (dw h dr db lg fa fr fb ka pg pn us di bt dk lf wn rd en fl (nI q)) sz)) 1 6 (va_A (dw h dr db lg fa fr fb ka pg pn us di bt dk lf wn rd en fl (nI q)) sz) := by
  refine vx_ofW (cc := cB_clean) (maxL := 5) (ret := (some .int)) (by decide) rfl ?_
  intro p e s m args below meth c s₁ B hml hT hv
  obtain ⟨rfl, hsz, hE, hXx, hZz, hP, hD0⟩ := hv
  have hx := B.exec
  have hb := B.bytes
  have hr := B.returns
  have hts := atoms_spec (ws := wB_clean) B.pre
  have hq : ∀ w ∈ lwg, w.before _ s = true := fun w h => hts w (List.mem_cons_of_mem _ h)
  have hown : s.vm.findClass RB = some m.cls := findClass_of_methodNamed B.named
  have hlocks := B.notSynchronized
  have hK := hE.1
  have hN := hE.2
  subst hsz
  have hD := hD0.self (sz := s.heap.size)
  generalize hAe : va_A (dw h dr db lg fa fr fb ka pg pn us di bt dk lf wn rd en fl (nI q)) s.heap.size = A at hD hZz ⊢
  have hA : ∀ q : Nat, s.heap.size ≤ q → A q := fun q h => by rw [← hAe]; exact Or.inr h
  have hS : va_S A s.heap s.heap [] := va_S.rf
  have hDw := hD
  have hP : va_P (dC, dI) clB (dw h dr db lg fa fr fb ka pg pn us di bt dk lf wn rd en fl (nI q)) s.heap := hP
  have hl := lv_entry ([.ref h, .int x]) (n := 5) (Nat.le_of_ble_eq_true rfl)
  rw [lg_entry_eq]
  generalize (lg_sl ([.ref h, .int x]) ++ List.replicate (5 - (lg_sl ([.ref h, .int x])).length) Slot.unset).toArray = ls at hl ⊢
  have hl : lv_has ls 5 [(0, .ref h), (1, .int x)] := hl
  refine lv_iload_n hx hb dB_clean_0 rfl (lv_at hl 1 rfl) ?_
  refine lv_iconst (v := 1) hx hb dB_clean_1 (by decide) ?_
  refine lv_icmp_lt (tgt := 11) hx hb dB_clean_2 (by decide) (fun c_1 => ?_) (fun c_1 => ?_)
  · exact absurd c_1 (by rw [ex]; exact nI_nlt (b := 1) h1 (by omega))
  · refine lv_iload_n hx hb dB_clean_5 rfl (lv_at hl 1 rfl) ?_
    refine lv_bipush (v := 12) hx hb dB_clean_6 (by decide) ?_
    refine lv_icmp_le (tgt := 21) hx hb dB_clean_8 (by decide) (fun c_2 => ?_) (fun c_2 => ?_)
    · refine lv_iconst (v := 0) hx hb dB_clean_21 (by decide) ?_
      refine lv_istore_n (lv' := [(2, .int 0), (0, .ref h), (1, .int x)]) hx hb dB_clean_22 rfl hl (by decide) rfl (fun ls hl => ?_)
      refine lv_aload_n hx hb dB_clean_23 rfl (lv_at hl 1 rfl) ?_
      refine va_get (D := (dC, dI)) (ci := 3) (v := .int (nI q)) (C := RB) (T := TB) (N := 4) hx hb hts (inC inB) hown hK hP 0 rfl rfl 3 (by decide) (hq _ wi_117) (fun _ h9 => h9) rfl dB_clean_24 ?_
      refine lv_istore_n (lv' := [(3, .int (nI q)), (2, .int 0), (0, .ref h), (1, .int x)]) hx hb dB_clean_27 rfl hl (by decide) rfl (fun ls hl => ?_)
      refine lv_iconst (v := 0) hx hb dB_clean_28 (by decide) ?_
      refine lv_istore (lv' := [(4, .int 0), (3, .int (nI q)), (2, .int 0), (0, .ref h), (1, .int x)]) hx hb dB_clean_29 hl (by decide) rfl (fun ls hl => ?_)
      have hDI : ∀ k, dsI di (Y k).1 := fun k => by rw [hY]; exact cl_dsI (X := (di, bt, dk, lf, wn, en, fl)) hF k
      have hY0 : Y 0 = ((di, bt, dk, lf, wn, en, fl), 0) := hY 0
      refine tk_loop 31 (fun (n : Nat) (k : Nat) H locs ls => (k ≤ kc) ∧ (n = kc - k) ∧ va_P (dC, dI) clB (dw h dr db lg fa fr fb ka pg pn us ((Y k).1.1) ((Y k).1.2.1) ((Y k).1.2.2.1) ((Y k).1.2.2.2.1) ((Y k).1.2.2.2.2.1) rd ((Y k).1.2.2.2.2.2.1) ((Y k).1.2.2.2.2.2.2) (nI q)) H ∧ va_D A (dw h dr db lg fa fr fb ka pg pn us ((Y k).1.1) ((Y k).1.2.1) ((Y k).1.2.2.1) ((Y k).1.2.2.2.1) ((Y k).1.2.2.2.2.1) rd ((Y k).1.2.2.2.2.2.1) ((Y k).1.2.2.2.2.2.2) (nI q)) ∧ va_S A s.heap H locs ∧ lv_has ls 5 [(0, .ref h), (1, .int x), (2, .int (nI (Y k).2)), (3, .int (nI (cf q k))), (4, .int (nI k))]) ?_ kc 0 ⟨Nat.zero_le _, rfl, (by rw [hY0]; exact hP), (dw_D hDw), hS, lv_sub hl [3, 4, 2, 1, 0] (by rw [cf_0 hq0, hY0]; rfl)⟩
      skip
      intro n k H locs ls hI ih
      obtain ⟨hi, hn, hP, hD, hS, hl⟩ := hI
      have hle : (Y k).2 ≤ k := by rw [hY]; exact clG_le k
      have hlt : (Y k).2 < nn := Nat.lt_of_le_of_lt (by rw [hY, hY]; exact clG_mono hi) hlc
      refine lv_iload hx hb dB_clean_31 (lv_at hl 4 rfl) ?_
      refine lv_bipush (v := 12) hx hb dB_clean_33 (by decide) ?_
      refine lv_icmp_ge (tgt := 91) hx hb dB_clean_35 (by decide) (fun c_3 => ?_) (fun c_3 => ?_)
      · exact absurd ((nI_leI (a := 12) (b := k) (by decide) (by omega)).mp c_3) (by omega)
      · refine lv_iload_n hx hb dB_clean_38 rfl (lv_at hl 2 rfl) ?_
        refine lv_iload_n hx hb dB_clean_39 rfl (lv_at hl 1 rfl) ?_
        refine lv_icmp_ge (tgt := 91) hx hb dB_clean_40 (by decide) (fun c_4 => ?_) (fun c_4 => ?_)
        · exact absurd c_4 (by rw [ex]; exact nI_ge hlt (by omega))
        · rcases Nat.lt_or_ge k kc with hkk | hkk
          · refine lv_aload_n hx hb dB_clean_43 rfl (lv_at hl 0 rfl) ?_
            refine va_get (D := (dC, dI)) (ci := 3) (v := .ref fa) (C := RB) (T := TB) (N := 4) hx hb hts (inC inB) hown hK hP 0 rfl rfl 2 (by decide) (hq _ wi_116) (fun _ h9 => h9) rfl dB_clean_44 ?_
            refine lv_iload_n hx hb dB_clean_47 rfl (lv_at hl 3 rfl) ?_
            refine tk_aald (n := (cf q k)) (y := fr (cf q k)) hx hb hK hP 4 1 rfl rfl rfl cf_lt (by decide) rfl dB_clean_48 ?_
            refine va_getN (D := (dC, dI)) (ci := 1) (v := .int (((Y k).1.1) (cf q k))) (C := RF) (T := TF) (N := 5) hx hb hts (inC inF) hown hK hP (5 + (cf q k)) (dw_fr cf_lt) rfl 4 (by decide) (va_Nw.use rfl (hN _ ns_12)) (fun _ h9 => h9) rfl dB_clean_49 ?_
            refine lv_if_eq (tgt := 80) hx hb dB_clean_52 (by decide) (fun c_5 => ?_) (fun c_5 => ?_)
            · refine lv_iload_n hx hb dB_clean_80 rfl (lv_at hl 3 rfl) ?_
              refine vp_callSi (va_Run.run (va_runS (As := [.int (nI (cf q k))]) (rest := []) ⟨hx, hb, hml, hown, hts⟩ (c_B_frameBehind l dC dI ka (nI (cf q k))) (cwS 1 hts (tw_S wi_354 wi_355 wi_24 wi_356) rfl rfl rfl (by decide +kernel) ⟨Nat.le_of_ble_eq_true rfl, Nat.le_of_ble_eq_true rfl⟩) ⟨fun a U g mk q => ⟨q.1, tk_E.call q.2.1, q.2.2⟩, fun U hU hW => ⟨rfl, tk_E.warm hW hE, by rw [hU]; exact (fun k q h => by simp at h)⟩⟩ rfl rfl hl.1 rfl (lv_room (Nat.le_of_ble_eq_true rfl)) dB_clean_81 ⟨Nat.zero_le _, Nat.zero_le _⟩)) (fun r_6 er_6 => ?_)
              replace er_6 := er_6.trans ((nxt_nI cf_lt).trans (congrArg nI (cf_s q k)))
              subst er_6
              refine lv_istore_n (lv' := [(3, .int (nI (cf q (k + 1)))), (0, .ref h), (1, .int x), (2, .int (nI (Y k).2)), (4, .int (nI k))]) hx hb dB_clean_84 rfl hl (by decide) rfl (fun ls hl => ?_)
              refine lv_iinc (v := ((nI k) + 1)) (lv' := [(4, .int ((nI k) + 1)), (3, .int (nI (cf q (k + 1)))), (0, .ref h), (1, .int x), (2, .int (nI (Y k).2))]) hx hb dB_clean_85 hl (k := 4) rfl rfl (by decide) rfl (fun ls hl => ?_)
              refine lv_goto (tgt := 31) hx hb dB_clean_88 (by decide) ?_
              have e : Y (k + 1) = Y k := by rw [hY, hY]; exact clG_no (by rw [← hY]; exact fun h => (of_decide_eq_true h).1 c_5)
              have e2 : (Y (k + 1)).2 = (Y k).2 := by rw [e]
              exact ih (n - 1) (k + 1) _ _ _ (by omega) ⟨by omega, by omega, (by rw [e]; exact hP), (dw_D hDw), hS, lv_sub hl [2, 3, 4, 1, 0] (by rw [e2, ← nI_1 k]; rfl)⟩
            · refine lv_aload_n hx hb dB_clean_55 rfl (lv_at hl 0 rfl) ?_
              refine va_get (D := (dC, dI)) (ci := 3) (v := .ref fa) (C := RB) (T := TB) (N := 4) hx hb hts (inC inB) hown hK hP 0 rfl rfl 2 (by decide) (hq _ wi_116) (fun _ h9 => h9) rfl dB_clean_56 ?_
              refine lv_iload_n hx hb dB_clean_59 rfl (lv_at hl 3 rfl) ?_
              refine tk_aald (n := (cf q k)) (y := fr (cf q k)) hx hb hK hP 4 1 rfl rfl rfl cf_lt (by decide) rfl dB_clean_60 ?_
              refine vp_callSi (va_Run.run (va_runV (As := []) (rest := []) ⟨hx, hb, hml, hown, hts⟩ (c_F_hasPins l dC dI ka (fr (cf q k)) (fb (cf q k)) (pg (cf q k)) (pn (cf q k)) (us (cf q k)) (((Y k).1.1) (cf q k))) (cwV 0 hts (tw_V wi_134 wi_135 wi_136 wi_27 wi_137) rfl rfl rfl (by decide +kernel) ⟨Nat.le_of_ble_eq_true rfl, Nat.le_of_ble_eq_true rfl⟩) ⟨fun a U g mk q => ⟨q.1, tk_E.call q.2.1, q.2.2⟩, va_recv hK hP (ci := 1) (q0 := (5 + (cf q k))) rfl (dw_fr cf_lt), fun U hU hW => ⟨rfl, tk_E.warm hW hE, by rw [hU]; exact (tk_one hP (k := 5 + (cf q k)) (dw_fr cf_lt))⟩⟩ rfl rfl hl.1 rfl (lv_room (Nat.le_of_ble_eq_true rfl)) dB_clean_61 ⟨Nat.zero_le _, Nat.zero_le _⟩)) (fun r_7 er_7 => ?_)
              subst er_7
              refine lv_if_ne (tgt := 80) hx hb dB_clean_64 (by decide) (fun c_8 => ?_) (fun c_8 => ?_)
              · refine lv_iload_n hx hb dB_clean_80 rfl (lv_at hl 3 rfl) ?_
                refine vp_callSi (va_Run.run (va_runS (As := [.int (nI (cf q k))]) (rest := []) ⟨hx, hb, hml, hown, hts⟩ (c_B_frameBehind l dC dI ka (nI (cf q k))) (cwS 1 hts (tw_S wi_354 wi_355 wi_24 wi_356) rfl rfl rfl (by decide +kernel) ⟨Nat.le_of_ble_eq_true rfl, Nat.le_of_ble_eq_true rfl⟩) ⟨fun a U g mk q => ⟨q.1, tk_E.call q.2.1, q.2.2⟩, fun U hU hW => ⟨rfl, tk_E.warm hW hE, by rw [hU]; exact (fun k q h => by simp at h)⟩⟩ rfl rfl hl.1 rfl (lv_room (Nat.le_of_ble_eq_true rfl)) dB_clean_81 ⟨Nat.zero_le _, Nat.zero_le _⟩)) (fun r_9 er_9 => ?_)
                replace er_9 := er_9.trans ((nxt_nI cf_lt).trans (congrArg nI (cf_s q k)))
                subst er_9
                refine lv_istore_n (lv' := [(3, .int (nI (cf q (k + 1)))), (0, .ref h), (1, .int x), (2, .int (nI (Y k).2)), (4, .int (nI k))]) hx hb dB_clean_84 rfl hl (by decide) rfl (fun ls hl => ?_)
                refine lv_iinc (v := ((nI k) + 1)) (lv' := [(4, .int ((nI k) + 1)), (3, .int (nI (cf q (k + 1)))), (0, .ref h), (1, .int x), (2, .int (nI (Y k).2))]) hx hb dB_clean_85 hl (k := 4) rfl rfl (by decide) rfl (fun ls hl => ?_)
                refine lv_goto (tgt := 31) hx hb dB_clean_88 (by decide) ?_
                have e : Y (k + 1) = Y k := by rw [hY, hY]; exact clG_no (by rw [← hY]; exact fun h => tk_b1 c_8 (of_decide_eq_true h).2)
                have e2 : (Y (k + 1)).2 = (Y k).2 := by rw [e]
                exact ih (n - 1) (k + 1) _ _ _ (by omega) ⟨by omega, by omega, (by rw [e]; exact hP), (dw_D hDw), hS, lv_sub hl [2, 3, 4, 1, 0] (by rw [e2, ← nI_1 k]; rfl)⟩
              · have hdk := c_5
                have hpk := tk_b0 c_8
                refine lv_aload_n hx hb dB_clean_67 rfl (lv_at hl 0 rfl) ?_
                refine lv_aload_n hx hb dB_clean_68 rfl (lv_at hl 0 rfl) ?_
                refine va_get (D := (dC, dI)) (ci := 3) (v := .ref fa) (C := RB) (T := TB) (N := 4) hx hb hts (inC inB) hown hK hP 0 rfl rfl 2 (by decide) (hq _ wi_116) (fun _ h9 => h9) rfl dB_clean_69 ?_
                refine lv_iload_n hx hb dB_clean_72 rfl (lv_at hl 3 rfl) ?_
                refine tk_aald (n := (cf q k)) (y := fr (cf q k)) hx hb hK hP 4 1 rfl rfl rfl cf_lt (by decide) rfl dB_clean_73 ?_
                have hFc := tk_freeW hD hS hA
                refine va_callv (va_runV (As := [.ref (fr (cf q k))]) (rest := []) ⟨hx, hb, hml, hown, hts⟩ (c_B_writePageOf_ok l dC dI ka _ h dr db lg fa fr fb pg pn us ((Y k).1.1) ((Y k).1.2.1) ((Y k).1.2.2.1) ((Y k).1.2.2.2.1) ((Y k).1.2.2.2.2.1) rd ((Y k).1.2.2.2.2.2.1) ((Y k).1.2.2.2.2.2.2) (nI q) (cf q k) (pgN (cf q k)) cf_lt (hpN _ cf_lt ((hDI k _ cf_lt).1 hdk)).1 (hpN _ cf_lt ((hDI k _ cf_lt).1 hdk)).2 (hDI k _ cf_lt).2 (hok k (by omega) hlt (decide_eq_true ⟨hdk, hpk⟩))) (cwV 1 hts (tw_V wi_357 wi_359 wi_6 wi_24 wi_360) rfl rfl rfl (by decide +kernel) ⟨Nat.le_of_ble_eq_true rfl, Nat.le_of_ble_eq_true rfl⟩) ⟨fun a U g mk q => ⟨q.1, q.2.1, tk_E.call q.2.2.1, q.2.2.2⟩, va_recv hK hP (ci := 3) (q0 := 0) rfl rfl, fun U hU hW => ⟨rfl, by rw [hU], tk_E.warm hW hE, by rw [hU]; exact hP, hD.weaken (fun _ _ _ _ => trivial)⟩⟩ rfl rfl hl.1 rfl (lv_room (Nat.le_of_ble_eq_true rfl)) dB_clean_74 ⟨Nat.zero_le _, Nat.zero_le _⟩) hS (fun q _ h => hFc q h) hFc (fun u_10 t H1 locs ht hvm hw hB hz1 hk1 hS => ?_)
                have hB : va_P (dC, dI) clB (dw h dr db lg fa fr fb ka pg pn us (upd ((Y k).1.1) (cf q k) 0) (va_up ((Y k).1.2.1) (cf q k) (psB (((Y k).1.2.1) (cf q k)) (tb2 (((Y k).1.2.1) (cf q k)) 0 + 1))) (wrD ((Y k).1.2.2.1) ((va_up ((Y k).1.2.1) (cf q k) (psB (((Y k).1.2.1) (cf q k)) (tb2 (((Y k).1.2.1) (cf q k)) 0 + 1))) (cf q k)) (pgN (cf q k)) 8) (lfA ((Y k).1.2.2.2.1) 8) ((Y k).1.2.2.2.2.1 + nI 8) rd (if (Y k).1.2.2.2.2.2.1 < (plB (((Y k).1.2.1) (cf q k))) then (plB (((Y k).1.2.1) (cf q k))) else (Y k).1.2.2.2.2.2.1) (if (Y k).1.2.2.2.2.2.1 < (plB (((Y k).1.2.1) (cf q k))) then (Y k).1.2.2.2.2.2.2 + 1 else (Y k).1.2.2.2.2.2.2) (nI q)) H1 := by rw [← ht]; exact hB
                obtain ⟨hP, hD⟩ := (⟨hB, dw_D hDw⟩ : va_P (dC, dI) clB (dw h dr db lg fa fr fb ka pg pn us (upd ((Y k).1.1) (cf q k) 0) (va_up ((Y k).1.2.1) (cf q k) (psB (((Y k).1.2.1) (cf q k)) (tb2 (((Y k).1.2.1) (cf q k)) 0 + 1))) (wrD ((Y k).1.2.2.1) ((va_up ((Y k).1.2.1) (cf q k) (psB (((Y k).1.2.1) (cf q k)) (tb2 (((Y k).1.2.1) (cf q k)) 0 + 1))) (cf q k)) (pgN (cf q k)) 8) (lfA ((Y k).1.2.2.2.1) 8) ((Y k).1.2.2.2.2.1 + nI 8) rd (if (Y k).1.2.2.2.2.2.1 < (plB (((Y k).1.2.1) (cf q k))) then (plB (((Y k).1.2.1) (cf q k))) else (Y k).1.2.2.2.2.2.1) (if (Y k).1.2.2.2.2.2.1 < (plB (((Y k).1.2.1) (cf q k))) then (Y k).1.2.2.2.2.2.2 + 1 else (Y k).1.2.2.2.2.2.2) (nI q)) H1 ∧ va_D A (dw h dr db lg fa fr fb ka pg pn us (upd ((Y k).1.1) (cf q k) 0) (va_up ((Y k).1.2.1) (cf q k) (psB (((Y k).1.2.1) (cf q k)) (tb2 (((Y k).1.2.1) (cf q k)) 0 + 1))) (wrD ((Y k).1.2.2.1) ((va_up ((Y k).1.2.1) (cf q k) (psB (((Y k).1.2.1) (cf q k)) (tb2 (((Y k).1.2.1) (cf q k)) 0 + 1))) (cf q k)) (pgN (cf q k)) 8) (lfA ((Y k).1.2.2.2.1) 8) ((Y k).1.2.2.2.2.1 + nI 8) rd (if (Y k).1.2.2.2.2.2.1 < (plB (((Y k).1.2.1) (cf q k))) then (plB (((Y k).1.2.1) (cf q k))) else (Y k).1.2.2.2.2.2.1) (if (Y k).1.2.2.2.2.2.1 < (plB (((Y k).1.2.1) (cf q k))) then (Y k).1.2.2.2.2.2.2 + 1 else (Y k).1.2.2.2.2.2.2) (nI q)))
                generalize H1 = H at hP hS ⊢
                have hP : va_P (dC, dI) clB (dw h dr db lg fa fr fb ka pg pn us (upd ((Y k).1.1) (cf q k) 0) (va_up ((Y k).1.2.1) (cf q k) (psB (((Y k).1.2.1) (cf q k)) (tb2 (((Y k).1.2.1) (cf q k)) 0 + 1))) (wrD ((Y k).1.2.2.1) ((va_up ((Y k).1.2.1) (cf q k) (psB (((Y k).1.2.1) (cf q k)) (tb2 (((Y k).1.2.1) (cf q k)) 0 + 1))) (cf q k)) (pgN (cf q k)) 8) (lfA ((Y k).1.2.2.2.1) 8) ((Y k).1.2.2.2.2.1 + nI 8) rd (if (Y k).1.2.2.2.2.2.1 < (plB (((Y k).1.2.1) (cf q k))) then (plB (((Y k).1.2.1) (cf q k))) else (Y k).1.2.2.2.2.2.1) (if (Y k).1.2.2.2.2.2.1 < (plB (((Y k).1.2.1) (cf q k))) then (Y k).1.2.2.2.2.2.2 + 1 else (Y k).1.2.2.2.2.2.2) (nI q)) H := hP
                have hD : va_D A (dw h dr db lg fa fr fb ka pg pn us (upd ((Y k).1.1) (cf q k) 0) (va_up ((Y k).1.2.1) (cf q k) (psB (((Y k).1.2.1) (cf q k)) (tb2 (((Y k).1.2.1) (cf q k)) 0 + 1))) (wrD ((Y k).1.2.2.1) ((va_up ((Y k).1.2.1) (cf q k) (psB (((Y k).1.2.1) (cf q k)) (tb2 (((Y k).1.2.1) (cf q k)) 0 + 1))) (cf q k)) (pgN (cf q k)) 8) (lfA ((Y k).1.2.2.2.1) 8) ((Y k).1.2.2.2.2.1 + nI 8) rd (if (Y k).1.2.2.2.2.2.1 < (plB (((Y k).1.2.1) (cf q k))) then (plB (((Y k).1.2.1) (cf q k))) else (Y k).1.2.2.2.2.2.1) (if (Y k).1.2.2.2.2.2.1 < (plB (((Y k).1.2.1) (cf q k))) then (Y k).1.2.2.2.2.2.2 + 1 else (Y k).1.2.2.2.2.2.2) (nI q)) := dw_D hDw
                refine lv_iinc (v := ((nI (Y k).2) + 1)) (lv' := [(2, .int ((nI (Y k).2) + 1)), (0, .ref h), (1, .int x), (3, .int (nI (cf q k))), (4, .int (nI k))]) hx hb dB_clean_77 hl (k := 2) rfl rfl (by decide) rfl (fun ls hl => ?_)
                refine lv_iload_n hx hb dB_clean_80 rfl (lv_at hl 3 rfl) ?_
                refine vp_callSi (va_Run.run (va_runS (As := [.int (nI (cf q k))]) (rest := []) ⟨hx, hb, hml, hown, hts⟩ (c_B_frameBehind l dC dI ka (nI (cf q k))) (cwS 1 hts (tw_S wi_354 wi_355 wi_24 wi_356) rfl rfl rfl (by decide +kernel) ⟨Nat.le_of_ble_eq_true rfl, Nat.le_of_ble_eq_true rfl⟩) ⟨fun a U g mk q => ⟨q.1, tk_E.call q.2.1, q.2.2⟩, fun U hU hW => ⟨rfl, tk_E.warm hW hE, by rw [hU]; exact (fun k q h => by simp at h)⟩⟩ rfl rfl hl.1 rfl (lv_room (Nat.le_of_ble_eq_true rfl)) dB_clean_81 ⟨Nat.zero_le _, Nat.zero_le _⟩)) (fun r_12 er_12 => ?_)
                replace er_12 := er_12.trans ((nxt_nI cf_lt).trans (congrArg nI (cf_s q k)))
                subst er_12
                refine lv_istore_n (lv' := [(3, .int (nI (cf q (k + 1)))), (2, .int ((nI (Y k).2) + 1)), (0, .ref h), (1, .int x), (4, .int (nI k))]) hx hb dB_clean_84 rfl hl (by decide) rfl (fun ls hl => ?_)
                refine lv_iinc (v := ((nI k) + 1)) (lv' := [(4, .int ((nI k) + 1)), (3, .int (nI (cf q (k + 1)))), (2, .int ((nI (Y k).2) + 1)), (0, .ref h), (1, .int x)]) hx hb dB_clean_85 hl (k := 4) rfl rfl (by decide) rfl (fun ls hl => ?_)
                refine lv_goto (tgt := 31) hx hb dB_clean_88 (by decide) ?_
                have e : Y (k + 1) = (dwrt pgN (Y k).1 (cf q k), (Y k).2 + 1) := by rw [hY, hY]; exact clG_yes (by rw [← hY]; exact hlt) (by rw [← hY]; exact decide_eq_true ⟨hdk, hpk⟩)
                have e2 : (Y (k + 1)).2 = (Y k).2 + 1 := by rw [e]
                have qdi : (Y (k + 1)).1.1 = (upd ((Y k).1.1) (cf q k) 0) := by rw [e, dwrt_eq]
                have qbt : (Y (k + 1)).1.2.1 = (va_up ((Y k).1.2.1) (cf q k) (psB (((Y k).1.2.1) (cf q k)) (tb2 (((Y k).1.2.1) (cf q k)) 0 + 1))) := by rw [e, dwrt_eq]
                have qdk : (Y (k + 1)).1.2.2.1 = (wrD ((Y k).1.2.2.1) ((va_up ((Y k).1.2.1) (cf q k) (psB (((Y k).1.2.1) (cf q k)) (tb2 (((Y k).1.2.1) (cf q k)) 0 + 1))) (cf q k)) (pgN (cf q k)) 8) := by rw [e, dwrt_eq]
                have qlf : (Y (k + 1)).1.2.2.2.1 = (lfA ((Y k).1.2.2.2.1) 8) := by rw [e, dwrt_eq]
                have qwn : (Y (k + 1)).1.2.2.2.2.1 = ((Y k).1.2.2.2.2.1 + nI 8) := by rw [e, dwrt_eq]
                have qen : (Y (k + 1)).1.2.2.2.2.2.1 = (if (Y k).1.2.2.2.2.2.1 < (plB (((Y k).1.2.1) (cf q k))) then (plB (((Y k).1.2.1) (cf q k))) else (Y k).1.2.2.2.2.2.1) := by rw [e, dwrt_eq]
                have qfl : (Y (k + 1)).1.2.2.2.2.2.2 = (if (Y k).1.2.2.2.2.2.1 < (plB (((Y k).1.2.1) (cf q k))) then (Y k).1.2.2.2.2.2.2 + 1 else (Y k).1.2.2.2.2.2.2) := by rw [e, dwrt_eq]
                exact ih (n - 1) (k + 1) _ _ _ (by omega) ⟨by omega, by omega, (by rw [qdi, qbt, qdk, qlf, qwn, qen, qfl]; exact hP), (dw_D hDw), hS, lv_sub hl [3, 4, 2, 1, 0] (by rw [e2, ← nI_1 k, ← nI_1 (Y k).2]; rfl)⟩
          · have ek : k = kc := by omega
            have hak : actC pn (Y k).1 (cf q k) = true := by rw [ek]; exact hac
            have hnzk : ∀ z, z < mm → ¬ lfA (Y k).1.2.2.2.1 z = 0 := by rw [ek]; exact hnz
            have h0k : lfA (Y k).1.2.2.2.1 mm = 0 := by rw [ek]; exact h0
            refine lv_aload_n hx hb dB_clean_43 rfl (lv_at hl 0 rfl) ?_
            refine va_get (D := (dC, dI)) (ci := 3) (v := .ref fa) (C := RB) (T := TB) (N := 4) hx hb hts (inC inB) hown hK hP 0 rfl rfl 2 (by decide) (hq _ wi_116) (fun _ h9 => h9) rfl dB_clean_44 ?_
            refine lv_iload_n hx hb dB_clean_47 rfl (lv_at hl 3 rfl) ?_
            refine tk_aald (n := (cf q k)) (y := fr (cf q k)) hx hb hK hP 4 1 rfl rfl rfl cf_lt (by decide) rfl dB_clean_48 ?_
            refine va_getN (D := (dC, dI)) (ci := 1) (v := .int (((Y k).1.1) (cf q k))) (C := RF) (T := TF) (N := 5) hx hb hts (inC inF) hown hK hP (5 + (cf q k)) (dw_fr cf_lt) rfl 4 (by decide) (va_Nw.use rfl (hN _ ns_12)) (fun _ h9 => h9) rfl dB_clean_49 ?_
            refine lv_if_eq (tgt := 80) hx hb dB_clean_52 (by decide) (fun c_13 => ?_) (fun c_13 => ?_)
            · exact absurd c_13 (of_decide_eq_true hak).1
            · refine lv_aload_n hx hb dB_clean_55 rfl (lv_at hl 0 rfl) ?_
              refine va_get (D := (dC, dI)) (ci := 3) (v := .ref fa) (C := RB) (T := TB) (N := 4) hx hb hts (inC inB) hown hK hP 0 rfl rfl 2 (by decide) (hq _ wi_116) (fun _ h9 => h9) rfl dB_clean_56 ?_
              refine lv_iload_n hx hb dB_clean_59 rfl (lv_at hl 3 rfl) ?_
              refine tk_aald (n := (cf q k)) (y := fr (cf q k)) hx hb hK hP 4 1 rfl rfl rfl cf_lt (by decide) rfl dB_clean_60 ?_
              refine vp_callSi (va_Run.run (va_runV (As := []) (rest := []) ⟨hx, hb, hml, hown, hts⟩ (c_F_hasPins l dC dI ka (fr (cf q k)) (fb (cf q k)) (pg (cf q k)) (pn (cf q k)) (us (cf q k)) (((Y k).1.1) (cf q k))) (cwV 0 hts (tw_V wi_134 wi_135 wi_136 wi_27 wi_137) rfl rfl rfl (by decide +kernel) ⟨Nat.le_of_ble_eq_true rfl, Nat.le_of_ble_eq_true rfl⟩) ⟨fun a U g mk q => ⟨q.1, tk_E.call q.2.1, q.2.2⟩, va_recv hK hP (ci := 1) (q0 := (5 + (cf q k))) rfl (dw_fr cf_lt), fun U hU hW => ⟨rfl, tk_E.warm hW hE, by rw [hU]; exact (tk_one hP (k := 5 + (cf q k)) (dw_fr cf_lt))⟩⟩ rfl rfl hl.1 rfl (lv_room (Nat.le_of_ble_eq_true rfl)) dB_clean_61 ⟨Nat.zero_le _, Nat.zero_le _⟩)) (fun r_14 er_14 => ?_)
              subst er_14
              refine lv_if_ne (tgt := 80) hx hb dB_clean_64 (by decide) (fun c_15 => ?_) (fun c_15 => ?_)
              · exact absurd (of_decide_eq_true hak).2 (tk_b1 c_15)
              · have hdk := c_13
                have hpk := tk_b0 c_15
                refine lv_aload_n hx hb dB_clean_67 rfl (lv_at hl 0 rfl) ?_
                refine lv_aload_n hx hb dB_clean_68 rfl (lv_at hl 0 rfl) ?_
                refine va_get (D := (dC, dI)) (ci := 3) (v := .ref fa) (C := RB) (T := TB) (N := 4) hx hb hts (inC inB) hown hK hP 0 rfl rfl 2 (by decide) (hq _ wi_116) (fun _ h9 => h9) rfl dB_clean_69 ?_
                refine lv_iload_n hx hb dB_clean_72 rfl (lv_at hl 3 rfl) ?_
                refine tk_aald (n := (cf q k)) (y := fr (cf q k)) hx hb hK hP 4 1 rfl rfl rfl cf_lt (by decide) rfl dB_clean_73 ?_
                have hFc := tk_freeW hD hS hA
                refine vx_callv (vx_runV (As := [.ref (fr (cf q k))]) (rest := []) ⟨hx, hb, hml, hown, hts⟩ (c_B_writePageOf_cut l hst dC dI ka sa _ h dr db lg fa fr fb pg pn us ((Y k).1.1) ((Y k).1.2.1) ((Y k).1.2.2.1) ((Y k).1.2.2.2.1) ((Y k).1.2.2.2.2.1) rd ((Y k).1.2.2.2.2.2.1) ((Y k).1.2.2.2.2.2.2) (nI q) (cf q k) (pgN (cf q k)) mm cf_lt (hpN _ cf_lt ((hDI k _ cf_lt).1 hdk)).1 (hpN _ cf_lt ((hDI k _ cf_lt).1 hdk)).2 (hDI k _ cf_lt).2 hm8 hnzk h0k) (cwV 1 hts (tw_V wi_357 wi_359 wi_6 wi_24 wi_360) rfl rfl rfl (by decide +kernel) ⟨Nat.le_of_ble_eq_true rfl, Nat.le_of_ble_eq_true rfl⟩) ⟨fun a U g mk q => ⟨q.1, q.2.1, tk_E.call q.2.2.1, tk_X.call q.2.2.2.1, tk_Z.call q.2.2.2.2.1, q.2.2.2.2.2⟩, va_recv hK hP (ci := 3) (q0 := 0) rfl rfl, fun U hU hW => ⟨rfl, by rw [hU], tk_E.warm hW hE, tk_X.warm hW hXx, tk_Z.at hZz hS hU hW hFc, by rw [hU]; exact hP, hD.weaken (fun _ _ _ _ => trivial)⟩⟩ rfl rfl hl.1 rfl (lv_room (Nat.le_of_ble_eq_true rfl)) dB_clean_74 ⟨Nat.le_refl _, Nat.le_refl _⟩) hS (fun q _ h => hFc q h) hFc (fun q _ h => hFc q h) (fun E9 ce q9 u t H1 locs ht hvm hpx hBX hz1 hk1 hS hce hcv hcl => ?_) (fun u t H1 locs ht hvm hw hB hz1 hk1 hS => hw.elim)
                obtain ⟨rfl, hB⟩ := hBX
                exact vx_out (fun z hz => (hT z hz).elim) hlocks hce hcv hcl (fun t9 ht9 hvm9 => ⟨(), trivial, ⟨rfl, by show va_P _ _ _ t9.heap; rw [ht9.trans ht.symm]; exact (by rw [← ek]; exact hB)⟩, hS.F ht9⟩) hS.2.2 (Nat.le_of_ble_eq_true rfl) (Nat.le_of_ble_eq_true rfl)
    · exact absurd (by rw [ex]; exact nI_le (b := 12) h12 (by decide)) c_2
end
section
set_option maxHeartbeats 4000000 in
set_option maxRecDepth 100000 in
theorem c_B_sweep_ok (l : Launch) (dC : Nat → ClassId) (dI : Nat → Nat → Nat) (ka : Nat → ClassId) (sz : Nat) (h dr db lg fa : Nat) (fr fb : Nat → Nat) (pg pn us di : Nat → Int32) (bt : Nat → Nat → Int32) (dk : Nat → Int32) (lf wn rd en fl hd : Int32) (pgN fo : Nat → Nat) (Y : Nat → DS × Nat) (hfo : foR pg di pgN fo) (hF : ∀ f, f < 12 → sb_Fit (bt f)) (hY : ∀ p, Y p = swG actS (dwrt pgN) fo (di, bt, dk, lf, wn, en, fl) p) (hok : ∀ p, p < 192 → fo p < 12 → actS (Y p).1 (fo p) = true → lfOK (Y p).1.2.2.2.1) : Met l yB_sweep wB_sweep ({ frames := 3, cells := 0, slots := 0, locals := 106 }) (va_Pc [.ref h] (fun U => U.heap.size = sz ∧ tk_E dC dI ka U ∧ va_P (dC, dI) clB (dw h dr db lg fa fr fb ka pg pn us di bt dk lf wn rd en fl hd) U.heap ∧ va_D (fun _ => True) (dw h dr db lg fa fr fb ka pg pn us di bt dk lf wn rd en fl hd))) (va_Qi (fun (r : Int32) (_ : Unit) => r = nI (Y 192).2) (fun _ t => va_P (dC, dI) clB (dw h dr db lg fa fr fb ka pg pn us ((Y 192).1.1) ((Y 192).1.2.1) ((Y 192).1.2.2.1) ((Y 192).1.2.2.2.1) ((Y 192).1.2.2.2.2.1) rd ((Y 192).1.2.2.2.2.2.1) ((Y 192).1.2.2.2.2.2.2) hd) t.heap) (va_A (dw h dr db lg fa fr fb ka pg pn us di bt dk lf wn rd en fl hd) sz)) 0 0 (va_A (dw h dr db lg fa fr fb ka pg pn us di bt dk lf wn rd en fl hd) sz) := by
  refine Met.ofW (cc := cB_sweep) (maxL := 3) (ret := (some .int)) (by decide) rfl ?_
  intro p e s m args below meth c s₁ B hml hv
  obtain ⟨rfl, hsz, hE, hP, hD0⟩ := hv
  have hx := B.exec
  have hb := B.bytes
  have hr := B.returns
  have hts := atoms_spec (ws := wB_sweep) B.pre
  have hq : ∀ w ∈ lwg, w.before _ s = true := fun w h => hts w (List.mem_cons_of_mem _ h)
  have hown : s.vm.findClass RB = some m.cls := findClass_of_methodNamed B.named
  have hlocks := B.notSynchronized
  have hK := hE.1
  have hN := hE.2
  subst hsz
  have hD := hD0.self (sz := s.heap.size)
  generalize hAe : va_A (dw h dr db lg fa fr fb ka pg pn us di bt dk lf wn rd en fl hd) s.heap.size = A at hD ⊢
  have hA : ∀ q : Nat, s.heap.size ≤ q → A q := fun q h => by rw [← hAe]; exact Or.inr h
  have hS : va_S A s.heap s.heap [] := va_S.rf
  have hDw := hD
  have hP : va_P (dC, dI) clB (dw h dr db lg fa fr fb ka pg pn us di bt dk lf wn rd en fl hd) s.heap := hP
  have hl := lv_entry ([.ref h]) (n := 3) (Nat.le_of_ble_eq_true rfl)
  rw [lg_entry_eq]
  generalize (lg_sl ([.ref h]) ++ List.replicate (3 - (lg_sl ([.ref h])).length) Slot.unset).toArray = ls at hl ⊢
  have hl : lv_has ls 3 [(0, .ref h)] := hl
  refine lv_iconst (v := 0) hx hb dB_sweep_0 (by decide) ?_
  refine lv_istore_n (lv' := [(1, .int 0), (0, .ref h)]) hx hb dB_sweep_1 rfl hl (by decide) rfl (fun ls hl => ?_)
  refine lv_aload_n hx hb dB_sweep_2 rfl (lv_at hl 1 rfl) ?_
  refine vp_callSi (va_Run.run (va_runV (As := []) (rest := []) ⟨hx, hb, hml, hown, hts⟩ (c_B_dirtyFrameOfLowestPage l dC dI ka h dr db lg fa fr fb pg pn us di bt dk lf wn rd en fl hd ) (cwV 0 hts (tw_V wi_444 wi_446 wi_9 wi_24 wi_447) rfl rfl rfl (by decide +kernel) ⟨Nat.le_of_ble_eq_true rfl, Nat.le_of_ble_eq_true rfl⟩) ⟨fun a U g mk q => ⟨q.1, tk_E.call q.2.1, q.2.2⟩, va_recv hK hP (ci := 3) (q0 := 0) rfl rfl, fun U hU hW => ⟨rfl, tk_E.warm hW hE, by rw [hU]; exact hP⟩⟩ rfl rfl hl.1 rfl (lv_room (Nat.le_of_ble_eq_true rfl)) dB_sweep_3 ⟨Nat.zero_le _, Nat.zero_le _⟩)) (fun r_1 er_1 => ?_)
  refine lv_istore_n (lv' := [(2, .int r_1), (1, .int 0), (0, .ref h)]) hx hb dB_sweep_6 rfl hl (by decide) rfl (fun ls hl => ?_)
  have hDI : ∀ p, dsI di (Y p).1 := fun p => by rw [hY]; exact sw_dsI (X := (di, bt, dk, lf, wn, en, fl)) hF p
  have hY0 : Y 0 = ((di, bt, dk, lf, wn, en, fl), 0) := hY 0
  refine tk_loop 7 (fun (n : Nat) (y : Nat × Int32) H locs ls => (y.1 ≤ 192) ∧ (n = 192 - y.1) ∧ (dlR pg (Y y.1).1.1 12 y.2) ∧ va_P (dC, dI) clB (dw h dr db lg fa fr fb ka pg pn us ((Y y.1).1.1) ((Y y.1).1.2.1) ((Y y.1).1.2.2.1) ((Y y.1).1.2.2.2.1) ((Y y.1).1.2.2.2.2.1) rd ((Y y.1).1.2.2.2.2.2.1) ((Y y.1).1.2.2.2.2.2.2) hd) H ∧ va_D A (dw h dr db lg fa fr fb ka pg pn us ((Y y.1).1.1) ((Y y.1).1.2.1) ((Y y.1).1.2.2.1) ((Y y.1).1.2.2.2.1) ((Y y.1).1.2.2.2.2.1) rd ((Y y.1).1.2.2.2.2.2.1) ((Y y.1).1.2.2.2.2.2.2) hd) ∧ va_S A s.heap H locs ∧ lv_has ls 3 [(0, .ref h), (1, .int (nI (Y y.1).2)), (2, .int (y.2))]) ?_ 192 (0, r_1) ⟨Nat.zero_le _, rfl, (by rw [hY0]; exact er_1), (by rw [hY0]; exact hP), (dw_D hDw), hS, lv_sub hl [2, 1, 0] (by rw [hY0]; rfl)⟩
  skip
  intro n y H locs ls hI ih
  obtain ⟨hi, hn, hdl, hP, hD, hS, hl⟩ := hI
  refine lv_iload_n hx hb dB_sweep_7 rfl (lv_at hl 2 rfl) ?_
  refine lv_iconst (v := (-1)) hx hb dB_sweep_8 (by decide) ?_
  refine lv_icmp_eq (tgt := 39) hx hb dB_sweep_9 (by decide) (fun c_2 => ?_) (fun c_2 => ?_)
  · have hfin : Y 192 = Y y.1 := by rw [hY, hY]; exact sw_end hi (by rw [← hY]; rcases hdl with h9 | ⟨i, hi9, h9, -⟩; exact h9.2; exact absurd (c_2 ▸ h9) (fun e => absurd (e ▸ nI_pos (n := i) (by omega)) (by decide)))
    refine lv_iload_n hx hb dB_sweep_39 rfl (lv_at hl 1 rfl) ?_
    exact W.iret (v := (nI (Y y.1).2)) hx hb hr (fun t ht hW => ⟨⟨(nI (Y y.1).2), (), rfl, (by rw [hfin]), by show va_P _ _ _ t.heap; rw [ht]; exact (by rw [hfin]; exact hP)⟩, hS.F ht⟩) hS.2.2 dB_sweep_40
  · obtain ⟨i2, hi2, er, hd2, hm2, -⟩ := hdl.resolve_left (fun h => c_2 h.1)
    have hdY := hd2
    have hmY := hm2
    rw [hY] at hdY hmY
    have hg2 := sw_ge hfo y.1 i2 hi2 hdY
    have hat : Y (pgN i2) = Y y.1 := by rw [hY, hY]; exact sw_at hfo hi2 hdY hmY
    have hnx : Y (pgN i2 + 1) = (dwrt pgN (Y y.1).1 i2, (Y y.1).2 + 1) := by rw [hY, hY]; exact sw_next hfo hi2 hdY hmY
    have e2 : (Y (pgN i2 + 1)).2 = (Y y.1).2 + 1 := by rw [hnx]
    have hfi := (hfo.2 i2 hi2 hg2.2).2.2
    have hpg2 := (hfo.2 i2 hi2 hg2.2).2.1
    have hw12 : (Y y.1).2 < 12 := by have h9 := sw_cnt (pgN := pgN) (fo := fo) (X := (di, bt, dk, lf, wn, en, fl)) y.1; rw [← hY] at h9; have := cntD_pos hd2 hi2; omega
    refine lv_iload_n hx hb dB_sweep_12 rfl (lv_at hl 1 rfl) ?_
    refine lv_bipush (v := 12) hx hb dB_sweep_13 (by decide) ?_
    refine lv_icmp_ge (tgt := 39) hx hb dB_sweep_15 (by decide) (fun c_3 => ?_) (fun c_3 => ?_)
    · exact absurd ((nI_leI (a := 12) (b := (Y y.1).2) (by decide) (by omega)).mp c_3) (by omega)
    · have hpl : pgN i2 < 192 := hpg2
      refine lv_aload_n hx hb dB_sweep_18 rfl (lv_at hl 0 rfl) ?_
      refine lv_aload_n hx hb dB_sweep_19 rfl (lv_at hl 0 rfl) ?_
      refine va_get (D := (dC, dI)) (ci := 3) (v := .ref fa) (C := RB) (T := TB) (N := 4) hx hb hts (inC inB) hown hK hP 0 rfl rfl 2 (by decide) (hq _ wi_116) (fun _ h9 => h9) rfl dB_sweep_20 ?_
      refine lv_iload_n hx hb dB_sweep_23 rfl (lv_at hl 2 rfl) ?_
      refine tk_aald (n := i2) (y := fr i2) hx hb hK hP 4 1 rfl rfl er hi2 (by decide) rfl dB_sweep_24 ?_
      have hFc := tk_freeW hD hS hA
      refine va_callv (va_runV (As := [.ref (fr i2)]) (rest := []) ⟨hx, hb, hml, hown, hts⟩ (c_B_writePageOf_ok l dC dI ka _ h dr db lg fa fr fb pg pn us ((Y y.1).1.1) ((Y y.1).1.2.1) ((Y y.1).1.2.2.1) ((Y y.1).1.2.2.2.1) ((Y y.1).1.2.2.2.2.1) rd ((Y y.1).1.2.2.2.2.2.1) ((Y y.1).1.2.2.2.2.2.2) hd i2 (pgN i2) hi2 (hfo.2 i2 hi2 hg2.2).1 (hfo.2 i2 hi2 hg2.2).2.1 (hDI y.1 i2 hi2).2 (hat ▸ hok (pgN i2) hpl (by rw [hfi]; exact hi2) (by rw [hfi, hat]; exact decide_eq_true hd2))) (cwV 1 hts (tw_V wi_357 wi_359 wi_6 wi_24 wi_360) rfl rfl rfl (by decide +kernel) ⟨Nat.le_of_ble_eq_true rfl, Nat.le_of_ble_eq_true rfl⟩) ⟨fun a U g mk q => ⟨q.1, q.2.1, tk_E.call q.2.2.1, q.2.2.2⟩, va_recv hK hP (ci := 3) (q0 := 0) rfl rfl, fun U hU hW => ⟨rfl, by rw [hU], tk_E.warm hW hE, by rw [hU]; exact hP, hD.weaken (fun _ _ _ _ => trivial)⟩⟩ rfl rfl hl.1 rfl (lv_room (Nat.le_of_ble_eq_true rfl)) dB_sweep_25 ⟨Nat.zero_le _, Nat.zero_le _⟩) hS (fun q _ h => hFc q h) hFc (fun u_4 t H1 locs ht hvm hw hB hz1 hk1 hS => ?_)
      have hB : va_P (dC, dI) clB (dw h dr db lg fa fr fb ka pg pn us (upd ((Y y.1).1.1) i2 0) (va_up ((Y y.1).1.2.1) i2 (psB (((Y y.1).1.2.1) i2) (tb2 (((Y y.1).1.2.1) i2) 0 + 1))) (wrD ((Y y.1).1.2.2.1) ((va_up ((Y y.1).1.2.1) i2 (psB (((Y y.1).1.2.1) i2) (tb2 (((Y y.1).1.2.1) i2) 0 + 1))) i2) (pgN i2) 8) (lfA ((Y y.1).1.2.2.2.1) 8) ((Y y.1).1.2.2.2.2.1 + nI 8) rd (if (Y y.1).1.2.2.2.2.2.1 < (plB (((Y y.1).1.2.1) i2)) then (plB (((Y y.1).1.2.1) i2)) else (Y y.1).1.2.2.2.2.2.1) (if (Y y.1).1.2.2.2.2.2.1 < (plB (((Y y.1).1.2.1) i2)) then (Y y.1).1.2.2.2.2.2.2 + 1 else (Y y.1).1.2.2.2.2.2.2) hd) H1 := by rw [← ht]; exact hB
      obtain ⟨hP, hD⟩ := (⟨hB, dw_D hDw⟩ : va_P (dC, dI) clB (dw h dr db lg fa fr fb ka pg pn us (upd ((Y y.1).1.1) i2 0) (va_up ((Y y.1).1.2.1) i2 (psB (((Y y.1).1.2.1) i2) (tb2 (((Y y.1).1.2.1) i2) 0 + 1))) (wrD ((Y y.1).1.2.2.1) ((va_up ((Y y.1).1.2.1) i2 (psB (((Y y.1).1.2.1) i2) (tb2 (((Y y.1).1.2.1) i2) 0 + 1))) i2) (pgN i2) 8) (lfA ((Y y.1).1.2.2.2.1) 8) ((Y y.1).1.2.2.2.2.1 + nI 8) rd (if (Y y.1).1.2.2.2.2.2.1 < (plB (((Y y.1).1.2.1) i2)) then (plB (((Y y.1).1.2.1) i2)) else (Y y.1).1.2.2.2.2.2.1) (if (Y y.1).1.2.2.2.2.2.1 < (plB (((Y y.1).1.2.1) i2)) then (Y y.1).1.2.2.2.2.2.2 + 1 else (Y y.1).1.2.2.2.2.2.2) hd) H1 ∧ va_D A (dw h dr db lg fa fr fb ka pg pn us (upd ((Y y.1).1.1) i2 0) (va_up ((Y y.1).1.2.1) i2 (psB (((Y y.1).1.2.1) i2) (tb2 (((Y y.1).1.2.1) i2) 0 + 1))) (wrD ((Y y.1).1.2.2.1) ((va_up ((Y y.1).1.2.1) i2 (psB (((Y y.1).1.2.1) i2) (tb2 (((Y y.1).1.2.1) i2) 0 + 1))) i2) (pgN i2) 8) (lfA ((Y y.1).1.2.2.2.1) 8) ((Y y.1).1.2.2.2.2.1 + nI 8) rd (if (Y y.1).1.2.2.2.2.2.1 < (plB (((Y y.1).1.2.1) i2)) then (plB (((Y y.1).1.2.1) i2)) else (Y y.1).1.2.2.2.2.2.1) (if (Y y.1).1.2.2.2.2.2.1 < (plB (((Y y.1).1.2.1) i2)) then (Y y.1).1.2.2.2.2.2.2 + 1 else (Y y.1).1.2.2.2.2.2.2) hd))
      generalize H1 = H at hP hS ⊢
      have hP : va_P (dC, dI) clB (dw h dr db lg fa fr fb ka pg pn us (upd ((Y y.1).1.1) i2 0) (va_up ((Y y.1).1.2.1) i2 (psB (((Y y.1).1.2.1) i2) (tb2 (((Y y.1).1.2.1) i2) 0 + 1))) (wrD ((Y y.1).1.2.2.1) ((va_up ((Y y.1).1.2.1) i2 (psB (((Y y.1).1.2.1) i2) (tb2 (((Y y.1).1.2.1) i2) 0 + 1))) i2) (pgN i2) 8) (lfA ((Y y.1).1.2.2.2.1) 8) ((Y y.1).1.2.2.2.2.1 + nI 8) rd (if (Y y.1).1.2.2.2.2.2.1 < (plB (((Y y.1).1.2.1) i2)) then (plB (((Y y.1).1.2.1) i2)) else (Y y.1).1.2.2.2.2.2.1) (if (Y y.1).1.2.2.2.2.2.1 < (plB (((Y y.1).1.2.1) i2)) then (Y y.1).1.2.2.2.2.2.2 + 1 else (Y y.1).1.2.2.2.2.2.2) hd) H := hP
      have hD : va_D A (dw h dr db lg fa fr fb ka pg pn us (upd ((Y y.1).1.1) i2 0) (va_up ((Y y.1).1.2.1) i2 (psB (((Y y.1).1.2.1) i2) (tb2 (((Y y.1).1.2.1) i2) 0 + 1))) (wrD ((Y y.1).1.2.2.1) ((va_up ((Y y.1).1.2.1) i2 (psB (((Y y.1).1.2.1) i2) (tb2 (((Y y.1).1.2.1) i2) 0 + 1))) i2) (pgN i2) 8) (lfA ((Y y.1).1.2.2.2.1) 8) ((Y y.1).1.2.2.2.2.1 + nI 8) rd (if (Y y.1).1.2.2.2.2.2.1 < (plB (((Y y.1).1.2.1) i2)) then (plB (((Y y.1).1.2.1) i2)) else (Y y.1).1.2.2.2.2.2.1) (if (Y y.1).1.2.2.2.2.2.1 < (plB (((Y y.1).1.2.1) i2)) then (Y y.1).1.2.2.2.2.2.2 + 1 else (Y y.1).1.2.2.2.2.2.2) hd) := dw_D hDw
      refine lv_iinc (v := ((nI (Y y.1).2) + 1)) (lv' := [(1, .int ((nI (Y y.1).2) + 1)), (0, .ref h), (2, .int (y.2))]) hx hb dB_sweep_28 hl (k := 1) rfl rfl (by decide) rfl (fun ls hl => ?_)
      refine lv_aload_n hx hb dB_sweep_31 rfl (lv_at hl 1 rfl) ?_
      refine vp_callSi (va_Run.run (va_runV (As := []) (rest := []) ⟨hx, hb, hml, hown, hts⟩ (c_B_dirtyFrameOfLowestPage l dC dI ka h dr db lg fa fr fb pg pn us (upd ((Y y.1).1.1) i2 0) (va_up ((Y y.1).1.2.1) i2 (psB (((Y y.1).1.2.1) i2) (tb2 (((Y y.1).1.2.1) i2) 0 + 1))) (wrD ((Y y.1).1.2.2.1) ((va_up ((Y y.1).1.2.1) i2 (psB (((Y y.1).1.2.1) i2) (tb2 (((Y y.1).1.2.1) i2) 0 + 1))) i2) (pgN i2) 8) (lfA ((Y y.1).1.2.2.2.1) 8) ((Y y.1).1.2.2.2.2.1 + nI 8) rd (if (Y y.1).1.2.2.2.2.2.1 < (plB (((Y y.1).1.2.1) i2)) then (plB (((Y y.1).1.2.1) i2)) else (Y y.1).1.2.2.2.2.2.1) (if (Y y.1).1.2.2.2.2.2.1 < (plB (((Y y.1).1.2.1) i2)) then (Y y.1).1.2.2.2.2.2.2 + 1 else (Y y.1).1.2.2.2.2.2.2) hd ) (cwV 0 hts (tw_V wi_444 wi_446 wi_9 wi_24 wi_447) rfl rfl rfl (by decide +kernel) ⟨Nat.le_of_ble_eq_true rfl, Nat.le_of_ble_eq_true rfl⟩) ⟨fun a U g mk q => ⟨q.1, tk_E.call q.2.1, q.2.2⟩, va_recv hK hP (ci := 3) (q0 := 0) rfl rfl, fun U hU hW => ⟨rfl, tk_E.warm hW hE, by rw [hU]; exact hP⟩⟩ rfl rfl hl.1 rfl (lv_room (Nat.le_of_ble_eq_true rfl)) dB_sweep_32 ⟨Nat.zero_le _, Nat.zero_le _⟩)) (fun r_6 er_6 => ?_)
      refine lv_istore_n (lv' := [(2, .int r_6), (1, .int ((nI (Y y.1).2) + 1)), (0, .ref h)]) hx hb dB_sweep_35 rfl hl (by decide) rfl (fun ls hl => ?_)
      refine lv_goto (tgt := 7) hx hb dB_sweep_36 (by decide) ?_
      have qdi : (Y (pgN i2 + 1)).1.1 = (upd ((Y y.1).1.1) i2 0) := by rw [hnx, dwrt_eq]
      have qbt : (Y (pgN i2 + 1)).1.2.1 = (va_up ((Y y.1).1.2.1) i2 (psB (((Y y.1).1.2.1) i2) (tb2 (((Y y.1).1.2.1) i2) 0 + 1))) := by rw [hnx, dwrt_eq]
      have qdk : (Y (pgN i2 + 1)).1.2.2.1 = (wrD ((Y y.1).1.2.2.1) ((va_up ((Y y.1).1.2.1) i2 (psB (((Y y.1).1.2.1) i2) (tb2 (((Y y.1).1.2.1) i2) 0 + 1))) i2) (pgN i2) 8) := by rw [hnx, dwrt_eq]
      have qlf : (Y (pgN i2 + 1)).1.2.2.2.1 = (lfA ((Y y.1).1.2.2.2.1) 8) := by rw [hnx, dwrt_eq]
      have qwn : (Y (pgN i2 + 1)).1.2.2.2.2.1 = ((Y y.1).1.2.2.2.2.1 + nI 8) := by rw [hnx, dwrt_eq]
      have qen : (Y (pgN i2 + 1)).1.2.2.2.2.2.1 = (if (Y y.1).1.2.2.2.2.2.1 < (plB (((Y y.1).1.2.1) i2)) then (plB (((Y y.1).1.2.1) i2)) else (Y y.1).1.2.2.2.2.2.1) := by rw [hnx, dwrt_eq]
      have qfl : (Y (pgN i2 + 1)).1.2.2.2.2.2.2 = (if (Y y.1).1.2.2.2.2.2.1 < (plB (((Y y.1).1.2.1) i2)) then (Y y.1).1.2.2.2.2.2.2 + 1 else (Y y.1).1.2.2.2.2.2.2) := by rw [hnx, dwrt_eq]
      exact ih (192 - (pgN i2 + 1)) (pgN i2 + 1, r_6) _ _ _ (by omega) ⟨by omega, rfl, (by rw [qdi]; exact er_6), (by rw [qdi, qbt, qdk, qlf, qwn, qen, qfl]; exact hP), (dw_D hDw), hS, lv_sub hl [2, 1, 0] (by rw [e2, ← nI_1 (Y y.1).2]; rfl)⟩
end
section
set_option maxHeartbeats 4000000 in
set_option maxRecDepth 100000 in
theorem c_B_sweep_cut (l : Launch) (hst : l.stackTraces = false) (dC : Nat → ClassId) (dI : Nat → Nat → Nat) (ka : Nat → ClassId) (sa : Nat → Nat) (sz : Nat) (h dr db lg fa : Nat) (fr fb : Nat → Nat) (pg pn us di : Nat → Int32) (bt : Nat → Nat → Int32) (dk : Nat → Int32) (lf wn rd en fl hd : Int32) (pc mm : Nat) (pgN fo : Nat → Nat) (Y : Nat → DS × Nat) (hfo : foR pg di pgN fo) (hF : ∀ f, f < 12 → sb_Fit (bt f)) (hY : ∀ p, Y p = swG actS (dwrt pgN) fo (di, bt, dk, lf, wn, en, fl) p) (hok : ∀ p, p < pc → fo p < 12 → actS (Y p).1 (fo p) = true → lfOK (Y p).1.2.2.2.1) (hpc : pc < 192) (hfc : fo pc < 12) (hac : actS (Y pc).1 (fo pc) = true) (hm8 : mm < 8) (hnz : ∀ z, z < mm → ¬ lfA (Y pc).1.2.2.2.1 z = 0) (h0 : lfA (Y pc).1.2.2.2.1 mm = 0) : vx_Met l yB_sweep wB_sweep ({ frames := 7, cells := 1, slots := 6, locals := 106 }) (va_Pc [.ref h] (fun U => U.heap.size = sz ∧ tk_E dC dI ka U ∧ tk_X sa U ∧ tk_Z (va_A (dw h dr db lg fa fr fb ka pg pn us di bt dk lf wn rd en fl hd) sz) U U.heap ∧ va_P (dC, dI) clB (dw h dr db lg fa fr fb ka pg pn us di bt dk lf wn rd en fl hd) U.heap ∧ va_D (fun _ => True) (dw h dr db lg fa fr fb ka pg pn us di bt dk lf wn rd en fl hd))) (va_Qi (fun (_ : Int32) (_ : Unit) => False) (fun _ _ => True) (va_A (dw h dr db lg fa fr fb ka pg pn us di bt dk lf wn rd en fl hd) sz)) (vx_X (fun _ : Unit => True) (fun E _ t => E = xUOE ∧ va_P (dC, dI) clB (dw h dr db lg fa fr fb ka (dropF (-1) pg 12) (dropF 0 pn 12) (dropF 0 us 12) (dropF 0 ((Y pc).1.1) 12) (va_up ((Y pc).1.2.1) (fo pc) (psB (((Y pc).1.2.1) (fo pc)) (tb2 (((Y pc).1.2.1) (fo pc)) 0 + 1))) (wrD ((Y pc).1.2.2.1) ((va_up ((Y pc).1.2.1) (fo pc) (psB (((Y pc).1.2.1) (fo pc)) (tb2 (((Y pc).1.2.1) (fo pc)) 0 + 1))) (fo pc)) pc mm) (-1) ((Y pc).1.2.2.2.2.1 + nI mm) rd (if (Y pc).1.2.2.2.2.2.1 < (plB (((Y pc).1.2.1) (fo pc))) then (plB (((Y pc).1.2.1) (fo pc))) else (Y pc).1.2.2.2.2.2.1) (if (Y pc).1.2.2.2.2.2.1 < (plB (((Y pc).1.2.1) (fo pc))) then (Y pc).1.2.2.2.2.2.2 + 1 else (Y pc).1.2.2.2.2.2.2) 0) t.heap) (va_A (dw h dr db lg fa fr fb ka pg pn us di bt dk lf wn rd en fl hd) sz)) 1 6 (va_A (dw h dr db lg fa fr fb ka pg pn us di bt dk lf wn rd en fl hd) sz) := by
  refine vx_ofW (cc := cB_sweep) (maxL := 3) (ret := (some .int)) (by decide) rfl ?_
  intro p e s m args below meth c s₁ B hml hT hv
  obtain ⟨rfl, hsz, hE, hXx, hZz, hP, hD0⟩ := hv
  have hx := B.exec
  have hb := B.bytes
  have hr := B.returns
  have hts := atoms_spec (ws := wB_sweep) B.pre
  have hq : ∀ w ∈ lwg, w.before _ s = true := fun w h => hts w (List.mem_cons_of_mem _ h)
  have hown : s.vm.findClass RB = some m.cls := findClass_of_methodNamed B.named
  have hlocks := B.notSynchronized
  have hK := hE.1
  have hN := hE.2
  subst hsz
  have hD := hD0.self (sz := s.heap.size)
  generalize hAe : va_A (dw h dr db lg fa fr fb ka pg pn us di bt dk lf wn rd en fl hd) s.heap.size = A at hD hZz ⊢
  have hA : ∀ q : Nat, s.heap.size ≤ q → A q := fun q h => by rw [← hAe]; exact Or.inr h
  have hS : va_S A s.heap s.heap [] := va_S.rf
  have hDw := hD
  have hP : va_P (dC, dI) clB (dw h dr db lg fa fr fb ka pg pn us di bt dk lf wn rd en fl hd) s.heap := hP
  have hl := lv_entry ([.ref h]) (n := 3) (Nat.le_of_ble_eq_true rfl)
  rw [lg_entry_eq]
  generalize (lg_sl ([.ref h]) ++ List.replicate (3 - (lg_sl ([.ref h])).length) Slot.unset).toArray = ls at hl ⊢
  have hl : lv_has ls 3 [(0, .ref h)] := hl
  refine lv_iconst (v := 0) hx hb dB_sweep_0 (by decide) ?_
  refine lv_istore_n (lv' := [(1, .int 0), (0, .ref h)]) hx hb dB_sweep_1 rfl hl (by decide) rfl (fun ls hl => ?_)
  refine lv_aload_n hx hb dB_sweep_2 rfl (lv_at hl 1 rfl) ?_
  refine vp_callSi (va_Run.run (va_runV (As := []) (rest := []) ⟨hx, hb, hml, hown, hts⟩ (c_B_dirtyFrameOfLowestPage l dC dI ka h dr db lg fa fr fb pg pn us di bt dk lf wn rd en fl hd ) (cwV 0 hts (tw_V wi_444 wi_446 wi_9 wi_24 wi_447) rfl rfl rfl (by decide +kernel) ⟨Nat.le_of_ble_eq_true rfl, Nat.le_of_ble_eq_true rfl⟩) ⟨fun a U g mk q => ⟨q.1, tk_E.call q.2.1, q.2.2⟩, va_recv hK hP (ci := 3) (q0 := 0) rfl rfl, fun U hU hW => ⟨rfl, tk_E.warm hW hE, by rw [hU]; exact hP⟩⟩ rfl rfl hl.1 rfl (lv_room (Nat.le_of_ble_eq_true rfl)) dB_sweep_3 ⟨Nat.zero_le _, Nat.zero_le _⟩)) (fun r_1 er_1 => ?_)
  refine lv_istore_n (lv' := [(2, .int r_1), (1, .int 0), (0, .ref h)]) hx hb dB_sweep_6 rfl hl (by decide) rfl (fun ls hl => ?_)
  have hDI : ∀ p, dsI di (Y p).1 := fun p => by rw [hY]; exact sw_dsI (X := (di, bt, dk, lf, wn, en, fl)) hF p
  have hY0 : Y 0 = ((di, bt, dk, lf, wn, en, fl), 0) := hY 0
  refine tk_loop 7 (fun (n : Nat) (y : Nat × Int32) H locs ls => (y.1 ≤ pc) ∧ (n = pc - y.1) ∧ (dlR pg (Y y.1).1.1 12 y.2) ∧ va_P (dC, dI) clB (dw h dr db lg fa fr fb ka pg pn us ((Y y.1).1.1) ((Y y.1).1.2.1) ((Y y.1).1.2.2.1) ((Y y.1).1.2.2.2.1) ((Y y.1).1.2.2.2.2.1) rd ((Y y.1).1.2.2.2.2.2.1) ((Y y.1).1.2.2.2.2.2.2) hd) H ∧ va_D A (dw h dr db lg fa fr fb ka pg pn us ((Y y.1).1.1) ((Y y.1).1.2.1) ((Y y.1).1.2.2.1) ((Y y.1).1.2.2.2.1) ((Y y.1).1.2.2.2.2.1) rd ((Y y.1).1.2.2.2.2.2.1) ((Y y.1).1.2.2.2.2.2.2) hd) ∧ va_S A s.heap H locs ∧ lv_has ls 3 [(0, .ref h), (1, .int (nI (Y y.1).2)), (2, .int (y.2))]) ?_ pc (0, r_1) ⟨Nat.zero_le _, rfl, (by rw [hY0]; exact er_1), (by rw [hY0]; exact hP), (dw_D hDw), hS, lv_sub hl [2, 1, 0] (by rw [hY0]; rfl)⟩
  skip
  intro n y H locs ls hI ih
  obtain ⟨hi, hn, hdl, hP, hD, hS, hl⟩ := hI
  have hdc : ¬ (Y y.1).1.1 (fo pc) = 0 := by have h9 : ¬ (Y pc).1.1 (fo pc) = 0 := of_decide_eq_true hac; rw [hY] at h9 ⊢; exact sw_dec (j := pc - y.1) (by rw [show y.1 + (pc - y.1) = pc by omega]; exact h9)
  refine lv_iload_n hx hb dB_sweep_7 rfl (lv_at hl 2 rfl) ?_
  refine lv_iconst (v := (-1)) hx hb dB_sweep_8 (by decide) ?_
  refine lv_icmp_eq (tgt := 39) hx hb dB_sweep_9 (by decide) (fun c_2 => ?_) (fun c_2 => ?_)
  · exact absurd c_2 (fun e9 => by rcases hdl with h9 | ⟨i, hi9, h9, -⟩; exact hdc (h9.2 _ hfc); exact absurd (e9 ▸ h9) (fun e => absurd (e ▸ nI_pos (n := i) (by omega)) (by decide)))
  · obtain ⟨i2, hi2, er, hd2, hm2, -⟩ := hdl.resolve_left (fun h => c_2 h.1)
    have hdY := hd2
    have hmY := hm2
    rw [hY] at hdY hmY
    have hg2 := sw_ge hfo y.1 i2 hi2 hdY
    have hat : Y (pgN i2) = Y y.1 := by rw [hY, hY]; exact sw_at hfo hi2 hdY hmY
    have hnx : Y (pgN i2 + 1) = (dwrt pgN (Y y.1).1 i2, (Y y.1).2 + 1) := by rw [hY, hY]; exact sw_next hfo hi2 hdY hmY
    have e2 : (Y (pgN i2 + 1)).2 = (Y y.1).2 + 1 := by rw [hnx]
    have hfi := (hfo.2 i2 hi2 hg2.2).2.2
    have hpg2 := (hfo.2 i2 hi2 hg2.2).2.1
    have hw12 : (Y y.1).2 < 12 := by have h9 := sw_cnt (pgN := pgN) (fo := fo) (X := (di, bt, dk, lf, wn, en, fl)) y.1; rw [← hY] at h9; have := cntD_pos hd2 hi2; omega
    have hple : pgN i2 ≤ pc := by have h9 := hm2 _ hfc hdc; rw [(hfo.2 i2 hi2 hg2.2).1, hfo.1 pc hpc hfc] at h9; exact (nI_leI (by omega) (by omega)).mp h9
    refine lv_iload_n hx hb dB_sweep_12 rfl (lv_at hl 1 rfl) ?_
    refine lv_bipush (v := 12) hx hb dB_sweep_13 (by decide) ?_
    refine lv_icmp_ge (tgt := 39) hx hb dB_sweep_15 (by decide) (fun c_3 => ?_) (fun c_3 => ?_)
    · exact absurd ((nI_leI (a := 12) (b := (Y y.1).2) (by decide) (by omega)).mp c_3) (by omega)
    · rcases Nat.lt_or_ge (pgN i2) pc with hkk | hkk
      · have hpl := hkk
        refine lv_aload_n hx hb dB_sweep_18 rfl (lv_at hl 0 rfl) ?_
        refine lv_aload_n hx hb dB_sweep_19 rfl (lv_at hl 0 rfl) ?_
        refine va_get (D := (dC, dI)) (ci := 3) (v := .ref fa) (C := RB) (T := TB) (N := 4) hx hb hts (inC inB) hown hK hP 0 rfl rfl 2 (by decide) (hq _ wi_116) (fun _ h9 => h9) rfl dB_sweep_20 ?_
        refine lv_iload_n hx hb dB_sweep_23 rfl (lv_at hl 2 rfl) ?_
        refine tk_aald (n := i2) (y := fr i2) hx hb hK hP 4 1 rfl rfl er hi2 (by decide) rfl dB_sweep_24 ?_
        have hFc := tk_freeW hD hS hA
        refine va_callv (va_runV (As := [.ref (fr i2)]) (rest := []) ⟨hx, hb, hml, hown, hts⟩ (c_B_writePageOf_ok l dC dI ka _ h dr db lg fa fr fb pg pn us ((Y y.1).1.1) ((Y y.1).1.2.1) ((Y y.1).1.2.2.1) ((Y y.1).1.2.2.2.1) ((Y y.1).1.2.2.2.2.1) rd ((Y y.1).1.2.2.2.2.2.1) ((Y y.1).1.2.2.2.2.2.2) hd i2 (pgN i2) hi2 (hfo.2 i2 hi2 hg2.2).1 (hfo.2 i2 hi2 hg2.2).2.1 (hDI y.1 i2 hi2).2 (hat ▸ hok (pgN i2) hpl (by rw [hfi]; exact hi2) (by rw [hfi, hat]; exact decide_eq_true hd2))) (cwV 1 hts (tw_V wi_357 wi_359 wi_6 wi_24 wi_360) rfl rfl rfl (by decide +kernel) ⟨Nat.le_of_ble_eq_true rfl, Nat.le_of_ble_eq_true rfl⟩) ⟨fun a U g mk q => ⟨q.1, q.2.1, tk_E.call q.2.2.1, q.2.2.2⟩, va_recv hK hP (ci := 3) (q0 := 0) rfl rfl, fun U hU hW => ⟨rfl, by rw [hU], tk_E.warm hW hE, by rw [hU]; exact hP, hD.weaken (fun _ _ _ _ => trivial)⟩⟩ rfl rfl hl.1 rfl (lv_room (Nat.le_of_ble_eq_true rfl)) dB_sweep_25 ⟨Nat.zero_le _, Nat.zero_le _⟩) hS (fun q _ h => hFc q h) hFc (fun u_4 t H1 locs ht hvm hw hB hz1 hk1 hS => ?_)
        have hB : va_P (dC, dI) clB (dw h dr db lg fa fr fb ka pg pn us (upd ((Y y.1).1.1) i2 0) (va_up ((Y y.1).1.2.1) i2 (psB (((Y y.1).1.2.1) i2) (tb2 (((Y y.1).1.2.1) i2) 0 + 1))) (wrD ((Y y.1).1.2.2.1) ((va_up ((Y y.1).1.2.1) i2 (psB (((Y y.1).1.2.1) i2) (tb2 (((Y y.1).1.2.1) i2) 0 + 1))) i2) (pgN i2) 8) (lfA ((Y y.1).1.2.2.2.1) 8) ((Y y.1).1.2.2.2.2.1 + nI 8) rd (if (Y y.1).1.2.2.2.2.2.1 < (plB (((Y y.1).1.2.1) i2)) then (plB (((Y y.1).1.2.1) i2)) else (Y y.1).1.2.2.2.2.2.1) (if (Y y.1).1.2.2.2.2.2.1 < (plB (((Y y.1).1.2.1) i2)) then (Y y.1).1.2.2.2.2.2.2 + 1 else (Y y.1).1.2.2.2.2.2.2) hd) H1 := by rw [← ht]; exact hB
        obtain ⟨hP, hD⟩ := (⟨hB, dw_D hDw⟩ : va_P (dC, dI) clB (dw h dr db lg fa fr fb ka pg pn us (upd ((Y y.1).1.1) i2 0) (va_up ((Y y.1).1.2.1) i2 (psB (((Y y.1).1.2.1) i2) (tb2 (((Y y.1).1.2.1) i2) 0 + 1))) (wrD ((Y y.1).1.2.2.1) ((va_up ((Y y.1).1.2.1) i2 (psB (((Y y.1).1.2.1) i2) (tb2 (((Y y.1).1.2.1) i2) 0 + 1))) i2) (pgN i2) 8) (lfA ((Y y.1).1.2.2.2.1) 8) ((Y y.1).1.2.2.2.2.1 + nI 8) rd (if (Y y.1).1.2.2.2.2.2.1 < (plB (((Y y.1).1.2.1) i2)) then (plB (((Y y.1).1.2.1) i2)) else (Y y.1).1.2.2.2.2.2.1) (if (Y y.1).1.2.2.2.2.2.1 < (plB (((Y y.1).1.2.1) i2)) then (Y y.1).1.2.2.2.2.2.2 + 1 else (Y y.1).1.2.2.2.2.2.2) hd) H1 ∧ va_D A (dw h dr db lg fa fr fb ka pg pn us (upd ((Y y.1).1.1) i2 0) (va_up ((Y y.1).1.2.1) i2 (psB (((Y y.1).1.2.1) i2) (tb2 (((Y y.1).1.2.1) i2) 0 + 1))) (wrD ((Y y.1).1.2.2.1) ((va_up ((Y y.1).1.2.1) i2 (psB (((Y y.1).1.2.1) i2) (tb2 (((Y y.1).1.2.1) i2) 0 + 1))) i2) (pgN i2) 8) (lfA ((Y y.1).1.2.2.2.1) 8) ((Y y.1).1.2.2.2.2.1 + nI 8) rd (if (Y y.1).1.2.2.2.2.2.1 < (plB (((Y y.1).1.2.1) i2)) then (plB (((Y y.1).1.2.1) i2)) else (Y y.1).1.2.2.2.2.2.1) (if (Y y.1).1.2.2.2.2.2.1 < (plB (((Y y.1).1.2.1) i2)) then (Y y.1).1.2.2.2.2.2.2 + 1 else (Y y.1).1.2.2.2.2.2.2) hd))
        generalize H1 = H at hP hS ⊢
        have hP : va_P (dC, dI) clB (dw h dr db lg fa fr fb ka pg pn us (upd ((Y y.1).1.1) i2 0) (va_up ((Y y.1).1.2.1) i2 (psB (((Y y.1).1.2.1) i2) (tb2 (((Y y.1).1.2.1) i2) 0 + 1))) (wrD ((Y y.1).1.2.2.1) ((va_up ((Y y.1).1.2.1) i2 (psB (((Y y.1).1.2.1) i2) (tb2 (((Y y.1).1.2.1) i2) 0 + 1))) i2) (pgN i2) 8) (lfA ((Y y.1).1.2.2.2.1) 8) ((Y y.1).1.2.2.2.2.1 + nI 8) rd (if (Y y.1).1.2.2.2.2.2.1 < (plB (((Y y.1).1.2.1) i2)) then (plB (((Y y.1).1.2.1) i2)) else (Y y.1).1.2.2.2.2.2.1) (if (Y y.1).1.2.2.2.2.2.1 < (plB (((Y y.1).1.2.1) i2)) then (Y y.1).1.2.2.2.2.2.2 + 1 else (Y y.1).1.2.2.2.2.2.2) hd) H := hP
        have hD : va_D A (dw h dr db lg fa fr fb ka pg pn us (upd ((Y y.1).1.1) i2 0) (va_up ((Y y.1).1.2.1) i2 (psB (((Y y.1).1.2.1) i2) (tb2 (((Y y.1).1.2.1) i2) 0 + 1))) (wrD ((Y y.1).1.2.2.1) ((va_up ((Y y.1).1.2.1) i2 (psB (((Y y.1).1.2.1) i2) (tb2 (((Y y.1).1.2.1) i2) 0 + 1))) i2) (pgN i2) 8) (lfA ((Y y.1).1.2.2.2.1) 8) ((Y y.1).1.2.2.2.2.1 + nI 8) rd (if (Y y.1).1.2.2.2.2.2.1 < (plB (((Y y.1).1.2.1) i2)) then (plB (((Y y.1).1.2.1) i2)) else (Y y.1).1.2.2.2.2.2.1) (if (Y y.1).1.2.2.2.2.2.1 < (plB (((Y y.1).1.2.1) i2)) then (Y y.1).1.2.2.2.2.2.2 + 1 else (Y y.1).1.2.2.2.2.2.2) hd) := dw_D hDw
        refine lv_iinc (v := ((nI (Y y.1).2) + 1)) (lv' := [(1, .int ((nI (Y y.1).2) + 1)), (0, .ref h), (2, .int (y.2))]) hx hb dB_sweep_28 hl (k := 1) rfl rfl (by decide) rfl (fun ls hl => ?_)
        refine lv_aload_n hx hb dB_sweep_31 rfl (lv_at hl 1 rfl) ?_
        refine vp_callSi (va_Run.run (va_runV (As := []) (rest := []) ⟨hx, hb, hml, hown, hts⟩ (c_B_dirtyFrameOfLowestPage l dC dI ka h dr db lg fa fr fb pg pn us (upd ((Y y.1).1.1) i2 0) (va_up ((Y y.1).1.2.1) i2 (psB (((Y y.1).1.2.1) i2) (tb2 (((Y y.1).1.2.1) i2) 0 + 1))) (wrD ((Y y.1).1.2.2.1) ((va_up ((Y y.1).1.2.1) i2 (psB (((Y y.1).1.2.1) i2) (tb2 (((Y y.1).1.2.1) i2) 0 + 1))) i2) (pgN i2) 8) (lfA ((Y y.1).1.2.2.2.1) 8) ((Y y.1).1.2.2.2.2.1 + nI 8) rd (if (Y y.1).1.2.2.2.2.2.1 < (plB (((Y y.1).1.2.1) i2)) then (plB (((Y y.1).1.2.1) i2)) else (Y y.1).1.2.2.2.2.2.1) (if (Y y.1).1.2.2.2.2.2.1 < (plB (((Y y.1).1.2.1) i2)) then (Y y.1).1.2.2.2.2.2.2 + 1 else (Y y.1).1.2.2.2.2.2.2) hd ) (cwV 0 hts (tw_V wi_444 wi_446 wi_9 wi_24 wi_447) rfl rfl rfl (by decide +kernel) ⟨Nat.le_of_ble_eq_true rfl, Nat.le_of_ble_eq_true rfl⟩) ⟨fun a U g mk q => ⟨q.1, tk_E.call q.2.1, q.2.2⟩, va_recv hK hP (ci := 3) (q0 := 0) rfl rfl, fun U hU hW => ⟨rfl, tk_E.warm hW hE, by rw [hU]; exact hP⟩⟩ rfl rfl hl.1 rfl (lv_room (Nat.le_of_ble_eq_true rfl)) dB_sweep_32 ⟨Nat.zero_le _, Nat.zero_le _⟩)) (fun r_6 er_6 => ?_)
        refine lv_istore_n (lv' := [(2, .int r_6), (1, .int ((nI (Y y.1).2) + 1)), (0, .ref h)]) hx hb dB_sweep_35 rfl hl (by decide) rfl (fun ls hl => ?_)
        refine lv_goto (tgt := 7) hx hb dB_sweep_36 (by decide) ?_
        have qdi : (Y (pgN i2 + 1)).1.1 = (upd ((Y y.1).1.1) i2 0) := by rw [hnx, dwrt_eq]
        have qbt : (Y (pgN i2 + 1)).1.2.1 = (va_up ((Y y.1).1.2.1) i2 (psB (((Y y.1).1.2.1) i2) (tb2 (((Y y.1).1.2.1) i2) 0 + 1))) := by rw [hnx, dwrt_eq]
        have qdk : (Y (pgN i2 + 1)).1.2.2.1 = (wrD ((Y y.1).1.2.2.1) ((va_up ((Y y.1).1.2.1) i2 (psB (((Y y.1).1.2.1) i2) (tb2 (((Y y.1).1.2.1) i2) 0 + 1))) i2) (pgN i2) 8) := by rw [hnx, dwrt_eq]
        have qlf : (Y (pgN i2 + 1)).1.2.2.2.1 = (lfA ((Y y.1).1.2.2.2.1) 8) := by rw [hnx, dwrt_eq]
        have qwn : (Y (pgN i2 + 1)).1.2.2.2.2.1 = ((Y y.1).1.2.2.2.2.1 + nI 8) := by rw [hnx, dwrt_eq]
        have qen : (Y (pgN i2 + 1)).1.2.2.2.2.2.1 = (if (Y y.1).1.2.2.2.2.2.1 < (plB (((Y y.1).1.2.1) i2)) then (plB (((Y y.1).1.2.1) i2)) else (Y y.1).1.2.2.2.2.2.1) := by rw [hnx, dwrt_eq]
        have qfl : (Y (pgN i2 + 1)).1.2.2.2.2.2.2 = (if (Y y.1).1.2.2.2.2.2.1 < (plB (((Y y.1).1.2.1) i2)) then (Y y.1).1.2.2.2.2.2.2 + 1 else (Y y.1).1.2.2.2.2.2.2) := by rw [hnx, dwrt_eq]
        exact ih (pc - (pgN i2 + 1)) (pgN i2 + 1, r_6) _ _ _ (by omega) ⟨by omega, rfl, (by rw [qdi]; exact er_6), (by rw [qdi, qbt, qdk, qlf, qwn, qen, qfl]; exact hP), (dw_D hDw), hS, lv_sub hl [2, 1, 0] (by rw [e2, ← nI_1 (Y y.1).2]; rfl)⟩
      · have ek : pgN i2 = pc := by omega
        have efc : i2 = fo pc := by rw [← ek]; exact hfi.symm
        have hYk : Y pc = Y y.1 := by rw [← ek]; exact hat
        have hnzk : ∀ z, z < mm → ¬ lfA (Y y.1).1.2.2.2.1 z = 0 := by rw [← hYk]; exact hnz
        have h0k : lfA (Y y.1).1.2.2.2.1 mm = 0 := by rw [← hYk]; exact h0
        refine lv_aload_n hx hb dB_sweep_18 rfl (lv_at hl 0 rfl) ?_
        refine lv_aload_n hx hb dB_sweep_19 rfl (lv_at hl 0 rfl) ?_
        refine va_get (D := (dC, dI)) (ci := 3) (v := .ref fa) (C := RB) (T := TB) (N := 4) hx hb hts (inC inB) hown hK hP 0 rfl rfl 2 (by decide) (hq _ wi_116) (fun _ h9 => h9) rfl dB_sweep_20 ?_
        refine lv_iload_n hx hb dB_sweep_23 rfl (lv_at hl 2 rfl) ?_
        refine tk_aald (n := i2) (y := fr i2) hx hb hK hP 4 1 rfl rfl er hi2 (by decide) rfl dB_sweep_24 ?_
        have hFc := tk_freeW hD hS hA
        refine vx_callv (vx_runV (As := [.ref (fr i2)]) (rest := []) ⟨hx, hb, hml, hown, hts⟩ (c_B_writePageOf_cut l hst dC dI ka sa _ h dr db lg fa fr fb pg pn us ((Y y.1).1.1) ((Y y.1).1.2.1) ((Y y.1).1.2.2.1) ((Y y.1).1.2.2.2.1) ((Y y.1).1.2.2.2.2.1) rd ((Y y.1).1.2.2.2.2.2.1) ((Y y.1).1.2.2.2.2.2.2) hd i2 (pgN i2) mm hi2 (hfo.2 i2 hi2 hg2.2).1 (hfo.2 i2 hi2 hg2.2).2.1 (hDI y.1 i2 hi2).2 hm8 hnzk h0k) (cwV 1 hts (tw_V wi_357 wi_359 wi_6 wi_24 wi_360) rfl rfl rfl (by decide +kernel) ⟨Nat.le_of_ble_eq_true rfl, Nat.le_of_ble_eq_true rfl⟩) ⟨fun a U g mk q => ⟨q.1, q.2.1, tk_E.call q.2.2.1, tk_X.call q.2.2.2.1, tk_Z.call q.2.2.2.2.1, q.2.2.2.2.2⟩, va_recv hK hP (ci := 3) (q0 := 0) rfl rfl, fun U hU hW => ⟨rfl, by rw [hU], tk_E.warm hW hE, tk_X.warm hW hXx, tk_Z.at hZz hS hU hW hFc, by rw [hU]; exact hP, hD.weaken (fun _ _ _ _ => trivial)⟩⟩ rfl rfl hl.1 rfl (lv_room (Nat.le_of_ble_eq_true rfl)) dB_sweep_25 ⟨Nat.le_refl _, Nat.le_refl _⟩) hS (fun q _ h => hFc q h) hFc (fun q _ h => hFc q h) (fun E9 ce q9 u t H1 locs ht hvm hpx hBX hz1 hk1 hS hce hcv hcl => ?_) (fun u t H1 locs ht hvm hw hB hz1 hk1 hS => hw.elim)
        obtain ⟨rfl, hB⟩ := hBX
        exact vx_out (fun z hz => (hT z hz).elim) hlocks hce hcv hcl (fun t9 ht9 hvm9 => ⟨(), trivial, ⟨rfl, by show va_P _ _ _ t9.heap; rw [ht9.trans ht.symm]; exact (by rw [hYk, ← efc, ← ek]; exact hB)⟩, hS.F ht9⟩) hS.2.2 (Nat.le_of_ble_eq_true rfl) (Nat.le_of_ble_eq_true rfl)
end
