/-! WHAT THE LAW NEEDS -/
theorem tk_commP {D : va_G} {cl : List vw_C} {a b : va_W} {H : Heap} (h : va_P D cl (a ++ b) H) : va_P D cl (b ++ a) H :=
  va_P.app (tk_lastP h) (fun k q hk => h k q (by rw [List.getElem?_append_left (List.getElem?_eq_some_iff.mp hk).1]; exact hk))
theorem tk_lastD {A : Nat → Prop} {ws wc : va_W} (hD : va_D A (ws ++ wc)) : va_D A wc := by
  have e : ∀ (k : Nat) (q : Nat × va_E), wc[k]? = some q → (ws ++ wc)[ws.length + k]? = some q := fun k q hk => by rw [List.getElem?_append_right (by omega), Nat.add_sub_cancel_left]; exact hk
  refine ⟨fun i j x y hi hj hxy => ?_, fun k q hk => hD.2 _ q (e k q hk)⟩
  have := hD.1 _ _ x y (e i x hi) (e j y hj) hxy
  omega
theorem tk_firstD {A : Nat → Prop} {ws wc : va_W} (hD : va_D A (ws ++ wc)) : va_D A ws := by
  have e : ∀ (k : Nat) (q : Nat × va_E), ws[k]? = some q → (ws ++ wc)[k]? = some q := fun k q hk => by rw [List.getElem?_append_left (List.getElem?_eq_some_iff.mp hk).1]; exact hk
  exact ⟨fun i j x y hi hj hxy => hD.1 i j x y (e i x hi) (e j y hj) hxy, fun k q hk => hD.2 k q (e k q hk)⟩
theorem tk_commD {A : Nat → Prop} {a b : va_W} (h : va_D A (a ++ b)) : va_D A (b ++ a) := by
  refine va_D.app (tk_lastD h) (tk_firstD h) (fun i j x y hi hj hxy => ?_)
  have e1 : (a ++ b)[a.length + i]? = some x := by rw [List.getElem?_append_right (by omega), Nat.add_sub_cancel_left]; exact hi
  have e2 : (a ++ b)[j]? = some y := by rw [List.getElem?_append_left (List.getElem?_eq_some_iff.mp hj).1]; exact hj
  have := h.1 _ _ x y e1 e2 hxy
  have := (List.getElem?_eq_some_iff.mp hj).1
  omega
/-- behind a call that had the last cells, and kept their addresses -/
theorem tk_joinW {A0 : Nat → Prop} {D : va_G} {cl : List vw_C} {ws wc w1 : va_W} {H H1 : Heap} (hP : va_P D cl (ws ++ wc) H) (hD : va_D A0 (ws ++ wc)) (ho : ∀ q : Nat, q < H.size → ¬ va_A wc H.size q → H1[q]? = H[q]?) (hF : ∀ q, va_A wc H.size q → A0 q) (hP1 : va_P D cl w1 H1) (hm : wc.map (fun q => q.1) = w1.map (fun q => q.1)) : va_P D cl (ws ++ w1) H1 ∧ va_D A0 (ws ++ w1) :=
  tk_joinG hP hD ho hF hP1 (tk_Dmap hm (tk_lastD hD).self)
def tk_N (U : State) : Prop := va_Nc xISE xIAE U ∧ va_Nc xNSE xIAE U ∧ va_Nc xNSE xISE U ∧ va_Nc xUOE xIAE U ∧ va_Nc xUOE xISE U ∧ va_Nc xUOE xNSE U
theorem tk_N.moved {u U : State} (hvm : u.vm.Alike U.vm) (h : tk_N u) : tk_N U := ⟨va_Nc.moved hvm h.1, va_Nc.moved hvm h.2.1, va_Nc.moved hvm h.2.2.1, va_Nc.moved hvm h.2.2.2.1, va_Nc.moved hvm h.2.2.2.2.1, va_Nc.moved hvm h.2.2.2.2.2⟩
theorem tk_N.call {U : State} (h : tk_N U) {g : JFrame} {mk : MethodId} {a : Array Value} : tk_N (U.calling g mk a) := tk_N.moved (u := U) (U := U.calling g mk a) (Vm.Alike.refl U.vm) h
section LCMP
variable {p : Program} {l : Launch} {e : Env} {R : Room} {s : State} {m : MethodId} {args : Array Value} {below : List Frame} {meth : Method} {c : Code} {H : Heap} {locs : List Loc} {cells slots : Nat} {Q : State → Prop}
variable {cc : ByteArray} {pc : Nat} {ls : Array Slot} {rest : List Value}
theorem tk_lcmpE (hexec : p.tables.exec = Jvm.exec) (hb : c.code = cc) {x : Int64} (hdg : decode cc pc = .ok (.lcmp, 1))
    (k : W p l e R s m args below meth c H locs cells slots Q (F0 m (pc + 1) ls (.int 0 :: rest))) : W p l e R s m args below meth c H locs cells slots Q (F0 m pc ls (.long x :: .long x :: rest)) := by
  intro T hT X
  obtain ⟨t, a, b⟩ := k T hT X
  refine ⟨t, ?_, b⟩
  have hn : ¬ x > x := Int64.lt_irrefl
  jvm_step X.here [X.here.top, hexec, hb, hdg, hn]
  exact a
end LCMP
