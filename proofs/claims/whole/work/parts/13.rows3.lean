section TKP
variable {p : Program} {l : Launch} {e : Env} {R : Room} {s : State} {m : MethodId} {args : Array Value} {below : List Frame} {meth : Method} {c : Code} {H : Heap} {locs : List Loc} {cells slots : Nat} {Q : State → Prop}
variable {cc : ByteArray} {pc : Nat} {ls : Array Slot} {rest : List Value} {D : va_G} {cl : List vw_C} {A : Nat → Prop} {a : Nat} {tys : List (ClassId × FieldType)} {ws : va_W} {H0 : Heap}
theorem tk_copy {sn dn nn : Nat} (hexec : p.tables.exec = Jvm.exec) (hb : c.code = cc) (hml : c.maxLocals = ls.size) {own : String} {index : Nat} (hown : s.vm.findClass own = some m.cls) (hlink : (Cond.methodLink own index arraycopyName).before args s = true) (hnat : (Cond.native arraycopyName).before args s = true) (hstat : (Cond.static arraycopyName).before args s = true) (hini : (Cond.initialized "java/lang/System").before args s = true)
    (hK : va_K D cl tys s) (hP : va_P D cl ws H) (hD : va_D A ws) (hS : va_S A H0 H locs) (q0 q1 t0 t1 : Nat) {a0 : Nat} {c0 c1 : ClassId} {n0 n1 : Nat} {f g : Nat → Int32} (ha0 : ws[q0]? = some (a0, .inl (c0, n0, .inl f))) (ha1 : ws[q1]? = some (a, .inl (c1, n1, .inl g))) (ht0 : tys[t0]? = some (c0, .byte)) (ht1 : tys[t1]? = some (c1, .byte))
    {sp dp n : Int32} (hsp : sp = nI sn) (hdp : dp = nI dn) (hn : n = nI nn) (h4 : sn + nn ≤ n0) (h5 : dn + nn ≤ n1) (hfit : sb_Fit f) (hsm : n0 < 2 ^ 31 ∧ n1 < 2 ^ 31)
    (hframes : 1 ≤ R.frames) (hlocals : (rest.map fun v => v.category).sum + (nativeFrameWords "java/lang/System" "arraycopy" 5 + 11) ≤ R.locals) (hdg : decode cc pc = .ok (.invokestatic index, 3))
    (kk : ∀ (H1 : Heap) (locs1 : List Loc), va_P D cl (ws.set q1 (a, .inl (c1, n1, .inl (va_cpy f g sn dn nn)))) H1 → va_D A (ws.set q1 (a, .inl (c1, n1, .inl (va_cpy f g sn dn nn)))) → va_S A H0 H1 locs1 → W p l e R s m args below meth c H1 locs1 cells slots Q (F0 m (pc + 3) ls rest)) : W p l e R s m args below meth c H locs cells slots Q (F0 m pc ls (.int n :: .int dp :: .ref a :: .int sp :: .ref a0 :: rest)) := by
  subst hsp; subst hdp; subst hn
  have c1 : (nI sn).toNatClampNeg = sn := nI_clamp (by omega)
  have c2 : (nI dn).toNatClampNeg = dn := nI_clamp (by omega)
  have c3 : (nI nn).toNatClampNeg = nn := nI_clamp (by omega)
  refine va_copyi hexec hb hml hown hlink hnat hstat hini hK hP hD hS q0 q1 t0 t1 ha0 ha1 ht0 ht1 rfl (nI_pos (by omega)) (nI_pos (by omega)) (nI_pos (by omega)) (by rw [c1, c3]; exact h4) (by rw [c2, c3]; exact h5) (fun i _ => hfit _) hframes hlocals hdg ?_
  rw [c1, c2, c3]
  exact kk
end TKP
theorem tk_same {D : va_G} {cl : List vw_C} {H : Heap} {b N : Nat} {cA : ClassId} {f g : Nat → Int32} (hP : va_P D cl [(b, .inl (cA, N, .inl f))] H) (h : ∀ j, j < N → f j = g j) : va_P D cl [(b, .inl (cA, N, .inl g))] H := by
  intro j q hj
  have hz : j < 1 := (List.getElem?_eq_some_iff.mp hj).1
  rw [show j = 0 by omega] at hj
  cases hj
  have h0 : H[b]? = some (vp_cell cA (N, .inl f)) := hP 0 _ rfl
  show H[b]? = some (vp_cell cA (N, .inl g))
  rw [h0, tk_cellc h]
theorem tk_sameD {A : Nat → Prop} {b : Nat} {x y : va_E} (hD : va_D A [(b, x)]) : va_D A [(b, y)] := by
  refine ⟨fun i j p q hi hj _ => ?_, fun k q hk => ?_⟩
  · have h1 : i < 1 := (List.getElem?_eq_some_iff.mp hi).1
    have h2 : j < 1 := (List.getElem?_eq_some_iff.mp hj).1
    omega
  · have h1 : k < 1 := (List.getElem?_eq_some_iff.mp hk).1
    rw [show k = 0 by omega] at hk
    cases hk
    exact hD.2 0 (b, x) rfl
