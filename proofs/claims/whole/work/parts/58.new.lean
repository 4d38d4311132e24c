/-! WHAT CONSTRUCTORS NEED: arrays of known classes, worlds that grow -/
theorem va_RA_inj {U : State} {a b : ClassId} {ty : FieldType} (h1 : va_RA U a ty) (h2 : va_RA U b ty) : a = b := by
  cases ty with
  | object C =>
    obtain ⟨_, _, _, _, _, g1⟩ := h1
    obtain ⟨_, _, _, _, _, g2⟩ := h2
    exact Option.some.inj (g1.symm.trans g2)
  | _ => exact Option.some.inj (h1.symm.trans h2)
theorem tk_ka {D : va_G} {cl : List vw_C} {tys : List (ClassId × FieldType)} {s : State} {cA k0 : ClassId} {ty : FieldType} {t0 : Nat} (hK : va_K D cl (tys ++ [(cA, ty)]) s) (ht : tys[t0]? = some (k0, ty)) : cA = k0 := by
  have h1 := (hK.2 tys.length (cA, ty) (by rw [List.getElem?_append_right (Nat.le_refl _), Nat.sub_self]; rfl)).2
  have h2 := (hK.2 t0 (k0, ty) (by rw [List.getElem?_append_left (List.getElem?_eq_some_iff.mp ht).1]; exact ht)).2
  exact va_RA_inj h1 h2
section TKN
variable {p : Program} {l : Launch} {e : Env} {R : Room} {s : State} {m : MethodId} {args : Array Value} {below : List Frame} {meth : Method} {c : Code} {H : Heap} {locs : List Loc} {cells slots : Nat} {Q : State → Prop}
variable {cc : ByteArray} {pc : Nat} {ls : Array Slot} {rest : List Value} {D : va_G} {cl : List vw_C} {A : Nat → Prop} {a : Nat} {tys : List (ClassId × FieldType)} {ws : va_W} {H0 : Heap}
theorem tk_newa (hexec : p.tables.exec = Jvm.exec) (hb : c.code = cc) {atype : ArrayType} (harr : (Cond.arrayClass (newarray.typeOf atype)).before args s = true) {ty : FieldType} (hty : newarray.typeOf atype = ty) (hK : va_K D cl tys s) (hP : va_P D cl ws H) (hD : va_D A ws) (hS : va_S A H0 H locs) (hA : ∀ q, H0.size ≤ q → A q) (t0 : Nat) {k0 : ClassId} (ht : tys[t0]? = some (k0, ty))
    {n : Int32} {N' : Nat} {a0 : vp_A} (ha : ∀ cA : ClassId, vp_cell cA a0 = arrV cA N' (fun _ => defaultValue ty)) (hn : ¬ n < 0) (hN : n.toNatClampNeg = N') (hbytes : N' * componentBytes ty ≤ 536870912) (hcells : cells + 1 ≤ R.cells) (hslots : slots + N' ≤ R.slots) (hdg : decode cc pc = .ok (.newarray atype, 2))
    (kk : ∀ (q : Nat) (H1 : Heap), va_P D cl (ws ++ [(q, .inl (k0, a0))]) H1 → va_D A (ws ++ [(q, .inl (k0, a0))]) → va_S A H0 H1 locs →
      W p l e R s m args below meth c H1 locs (cells + 1) (slots + N') Q (F0 m (pc + 2) ls (.ref q :: rest))) : W p l e R s m args below meth c H locs cells slots Q (F0 m pc ls (.int n :: rest)) := by
  refine va_newa hexec hb harr hty hK hP hD hS hA ha hn hN hbytes hcells hslots hdg (fun q cA H1 hK1 hP1 hD1 hS1 => ?_)
  have e1 := tk_ka hK1 ht
  subst e1
  exact kk q H1 hP1 hD1 hS1
theorem tk_newq (hexec : p.tables.exec = Jvm.exec) (hb : c.code = cc) {own C : String} {index : Nat} (hown : s.vm.findClass own = some m.cls) (hclink : (Cond.classLink own index C).before args s = true) (hover : va_AO C s) (hK : va_K D cl tys s) (hP : va_P D cl ws H) (hD : va_D A ws) (hS : va_S A H0 H locs) (hA : ∀ q, H0.size ≤ q → A q) (t0 : Nat) {k0 : ClassId} (ht : tys[t0]? = some (k0, .object C))
    {n : Int32} {N' : Nat} (hn : ¬ n < 0) (hN : n.toNatClampNeg = N') (hbytes : N' * 4 ≤ 536870912) (hcells : cells + 1 ≤ R.cells) (hslots : slots + N' ≤ R.slots) (hdg : decode cc pc = .ok (.anewarray index, 3))
    (kk : ∀ (q : Nat) (H1 : Heap), va_P D cl (ws ++ [(q, .inl (k0, N', .inr (.inr (.inr (.inr (fun _ => none))))))]) H1 → va_D A (ws ++ [(q, .inl (k0, N', .inr (.inr (.inr (.inr (fun _ => none))))))]) → va_S A H0 H1 locs →
      W p l e R s m args below meth c H1 locs (cells + 1) (slots + N') Q (F0 m (pc + 3) ls (.ref q :: rest))) : W p l e R s m args below meth c H locs cells slots Q (F0 m pc ls (.int n :: rest)) := by
  refine va_newq hexec hb hown hclink hover hK hP hD hS hA hn hN hbytes hcells hslots hdg (fun q cA H1 hK1 hP1 hD1 hS1 => ?_)
  have e1 := tk_ka hK1 ht
  subst e1
  exact kk q H1 hP1 hD1 hS1
end TKN
/-- behind a call that had the last cells of the world, and gave back w1 -/
theorem tk_joinG {A0 : Nat → Prop} {D : va_G} {cl : List vw_C} {ws wc w1 : va_W} {H H1 : Heap} (hP : va_P D cl (ws ++ wc) H) (hD : va_D A0 (ws ++ wc)) (ho : ∀ q : Nat, q < H.size → ¬ va_A wc H.size q → H1[q]? = H[q]?) (hF : ∀ q, va_A wc H.size q → A0 q) (hP1 : va_P D cl w1 H1) (hD1 : va_D (va_A wc H.size) w1) : va_P D cl (ws ++ w1) H1 ∧ va_D A0 (ws ++ w1) := by
  have left : ∀ (k : Nat) (q : Nat × va_E), ws[k]? = some q → (ws ++ wc)[k]? = some q := fun k q hk => by rw [List.getElem?_append_left (List.getElem?_eq_some_iff.mp hk).1]; exact hk
  have right : ∀ (k : Nat) (q : Nat × va_E), wc[k]? = some q → (ws ++ wc)[ws.length + k]? = some q := fun k q hk => by rw [List.getElem?_append_right (by omega), Nat.add_sub_cancel_left]; exact hk
  have apart : ∀ (k : Nat) (q : Nat × va_E), ws[k]? = some q → ¬ va_A wc H.size q.1 := by
    intro k q hk h
    have hl := (List.getElem?_eq_some_iff.mp hk).1
    rcases h with ⟨j, x, hj⟩ | h
    · have := hD.1 k (ws.length + j) q (q.1, x) (left k q hk) (right j _ hj) rfl
      omega
    · have := (hP k q (left k q hk)).lt
      omega
  have h1 : va_D A0 ws := ⟨fun i j x y hi hj hxy => hD.1 i j x y (left i x hi) (left j y hj) hxy, fun k q hk => hD.2 k q (left k q hk)⟩
  refine ⟨va_P.app (fun k q hk => (hP k q (left k q hk)).kept (ho q.1 ((hP k q (left k q hk)).lt) (apart k q hk))) hP1, va_D.app h1 (hD1.weaken (fun _ q _ h => hF q.1 h)) (fun i j x y hi hj hxy => ?_)⟩
  exact apart i x hi (by rw [hxy]; exact hD1.2 j y hj)
theorem tk_freeG {A0 : Nat → Prop} {ws wc : va_W} {H0 H : Heap} {locs : List Loc} (hD : va_D A0 (ws ++ wc)) (hS : va_S A0 H0 H locs) (hA : ∀ q, H0.size ≤ q → A0 q) : ∀ z, va_A wc H.size z → A0 z :=
  tk_free hD hS hA (fun x hx => List.getElem?_of_mem (List.mem_append_right _ hx))
theorem tk_lastP {D : va_G} {cl : List vw_C} {ws wc : va_W} {H : Heap} (hP : va_P D cl (ws ++ wc) H) : va_P D cl wc H := fun k q hk => hP (ws.length + k) q (by rw [List.getElem?_append_right (by omega), Nat.add_sub_cancel_left]; exact hk)
/-- a cell's contents told otherwise -/
theorem tk_swapP {D : va_G} {cl : List vw_C} {ws : va_W} {H : Heap} {k a : Nat} {cA : ClassId} {x x' : vp_A} (hP : va_P D cl ws H) (hk : ws[k]? = some (a, .inl (cA, x))) (he : vp_cell cA x = vp_cell cA x') : va_P D cl (ws.set k (a, .inl (cA, x'))) H := by
  intro j q hj
  by_cases e : j = k
  · subst e
    rw [List.getElem?_set_self (List.getElem?_eq_some_iff.mp hk).1] at hj
    cases hj
    have h0 : H[a]? = some (vp_cell cA x) := hP j _ hk
    show H[a]? = some (vp_cell cA x')
    rw [h0, he]
  · rw [List.getElem?_set_ne (Ne.symm e)] at hj
    exact hP j q hj
theorem tk_cellr {cA : ClassId} {N : Nat} {f g : Nat → Option Nat} (h : ∀ j, j < N → f j = g j) : vp_cell cA (N, .inr (.inr (.inr (.inr f)))) = vp_cell cA (N, .inr (.inr (.inr (.inr g)))) := by
  rw [vp_cell_q, vp_cell_q]
  have e : ∀ k : Nat, (arrV cA N (fun j => va_rf (f j))).slots[k]? = (arrV cA N (fun j => va_rf (g j))).slots[k]? := by
    intro k
    by_cases hk : k < N
    · rw [arrV_read _ _ hk, arrV_read _ _ hk, h k hk]
    · rw [Array.getElem?_eq_none (by rw [arrV_size]; omega), Array.getElem?_eq_none (by rw [arrV_size]; omega)]
  have e2 : (arrV cA N (fun j => va_rf (f j))).slots = (arrV cA N (fun j => va_rf (g j))).slots := Array.ext_getElem? e
  unfold arrV at e2 ⊢
  simp only at e2 ⊢
  rw [e2]
/-- a loop, by a measure n, whose room grows -/
theorem tk_loopC {p : Program} {l : Launch} {e : Env} {R : Room} {s : State} {m : MethodId} {args : Array Value} {below : List Frame} {meth : Method} {c : Code} {Q : State → Prop} {σ : Type} (pc : Nat) (C S : σ → Nat) (I : Nat → σ → Heap → List Loc → Array Slot → Prop)
    (step : ∀ (n : Nat) (x : σ) (H : Heap) (locs : List Loc) (ls : Array Slot), I n x H locs ls → (∀ (n' : Nat) (x' : σ) (H' : Heap) (locs' : List Loc) (ls' : Array Slot), n' < n → I n' x' H' locs' ls' → W p l e R s m args below meth c H' locs' (C x') (S x') Q (F0 m pc ls' [])) → W p l e R s m args below meth c H locs (C x) (S x) Q (F0 m pc ls []))
    (n : Nat) (x : σ) {H : Heap} {locs : List Loc} {ls : Array Slot} {k1 k2 : Nat} (hc : C x = k1) (hs : S x = k2) (h : I n x H locs ls) : W p l e R s m args below meth c H locs k1 k2 Q (F0 m pc ls []) := by
  subst hc
  subst hs
  have key : ∀ (k n : Nat) (x : σ) (H : Heap) (locs : List Loc) (ls : Array Slot), n < k → I n x H locs ls → W p l e R s m args below meth c H locs (C x) (S x) Q (F0 m pc ls []) := by
    intro k
    induction k with
    | zero => intro n x H locs ls h; omega
    | succ k ih => intro n x H locs ls hn hI; exact step n x H locs ls hI (fun n' x' H' locs' ls' hn' hI' => ih n' x' H' locs' ls' (by omega) hI')
  exact key (n + 1) n x H locs ls (by omega) h
/-- frames and their bytes, as they are made -/
def ilv (ka : Nat → ClassId) (fr fb : Nat → Nat) : Nat → va_W
  | 0 => []
  | z + 1 => ilv ka fr fb z ++ [(fr z, .inr (1, [.ref (fb z), .int (-1), .int 0, .int 0, .int 0])), (fb z, .inl (ka 0, 512, .inl (fun _ => 0)))]
theorem ilv_len (ka : Nat → ClassId) (fr fb : Nat → Nat) (z : Nat) : (ilv ka fr fb z).length = 2 * z := by
  induction z with
  | zero => rfl
  | succ z ih => simp only [ilv, List.length_append, ih, List.length_cons, List.length_nil]; omega
theorem ilv_congr {ka : Nat → ClassId} {fr fb fr' fb' : Nat → Nat} {z : Nat} (h : ∀ i, i < z → fr i = fr' i ∧ fb i = fb' i) : ilv ka fr fb z = ilv ka fr' fb' z := by
  induction z with
  | zero => rfl
  | succ z ih => simp only [ilv]; rw [ih (fun i hi => h i (by omega)), (h z (by omega)).1, (h z (by omega)).2]
