theorem tk_free1 {A0 : Nat → Prop} {ws : va_W} {H0 H : Heap} {locs : List Loc} {k : Nat} {q : Nat × va_E} (hD : va_D A0 ws) (hS : va_S A0 H0 H locs) (hA : ∀ q, H0.size ≤ q → A0 q) (hk : ws[k]? = some q) : ∀ z, va_A [q] H.size z → A0 z :=
  tk_free hD hS hA (fun x hx => ⟨k, by rw [List.mem_singleton.mp hx]; exact hk⟩)
theorem tk_free2 {A0 : Nat → Prop} {ws : va_W} {H0 H : Heap} {locs : List Loc} {k k' : Nat} {q q' : Nat × va_E} (hD : va_D A0 ws) (hS : va_S A0 H0 H locs) (hA : ∀ q, H0.size ≤ q → A0 q) (hk : ws[k]? = some q) (hk' : ws[k']? = some q') : ∀ z, va_A [q, q'] H.size z → A0 z :=
  tk_free hD hS hA (fun x hx => by
    rcases List.mem_cons.mp hx with rfl | h
    · exact ⟨k, hk⟩
    · rw [List.mem_singleton.mp h]; exact ⟨k', hk'⟩)
theorem tk_free3 {A0 : Nat → Prop} {ws : va_W} {H0 H : Heap} {locs : List Loc} {k k' k2 : Nat} {q q' q2 : Nat × va_E} (hD : va_D A0 ws) (hS : va_S A0 H0 H locs) (hA : ∀ q, H0.size ≤ q → A0 q) (hk : ws[k]? = some q) (hk' : ws[k']? = some q') (hk2 : ws[k2]? = some q2) : ∀ z, va_A [q, q', q2] H.size z → A0 z :=
  tk_free hD hS hA (fun x hx => by
    rcases List.mem_cons.mp hx with rfl | h
    · exact ⟨k, hk⟩
    · rcases List.mem_cons.mp h with rfl | h
      · exact ⟨k', hk'⟩
      · rw [List.mem_singleton.mp h]; exact ⟨k2, hk2⟩)
/-- behind a call that had three cells of the world -/
theorem tk_join3 {A0 : Nat → Prop} {D : va_G} {cl : List vw_C} {ws : va_W} {a b d : Nat} {e e' f f' g g' : va_E} {H H1 : Heap} {k k' k2 : Nat} (hP : va_P D cl ws H) (hD : va_D A0 ws) (hk : ws[k]? = some (a, e)) (hk' : ws[k']? = some (b, f)) (hk2 : ws[k2]? = some (d, g)) (h1 : k ≠ k') (h2 : k ≠ k2) (h3 : k' ≠ k2)
    (ho : ∀ q : Nat, q < H.size → ¬ va_A [(a, e), (b, f), (d, g)] H.size q → H1[q]? = H[q]?) (hP1 : va_P D cl [(a, e'), (b, f'), (d, g')] H1) : va_P D cl (((ws.set k (a, e')).set k' (b, f')).set k2 (d, g')) H1 ∧ va_D A0 (((ws.set k (a, e')).set k' (b, f')).set k2 (d, g')) := by
  have hl := (List.getElem?_eq_some_iff.mp hk).1
  have hl' := (List.getElem?_eq_some_iff.mp hk').1
  have hl2 := (List.getElem?_eq_some_iff.mp hk2).1
  have g1 : (ws.set k (a, e'))[k']? = some (b, f) := by rw [List.getElem?_set_ne h1]; exact hk'
  have g2 : ((ws.set k (a, e')).set k' (b, f'))[k2]? = some (d, g) := by rw [List.getElem?_set_ne h3, List.getElem?_set_ne h2]; exact hk2
  refine ⟨fun j q hj => ?_, ((hD.set hk).set g1).set g2⟩
  by_cases hj2 : j = k2
  · subst hj2
    rw [List.getElem?_set_self (by simpa using hl2)] at hj
    cases hj
    exact hP1 2 _ rfl
  · rw [List.getElem?_set_ne (Ne.symm hj2)] at hj
    by_cases hjk' : j = k'
    · subst hjk'
      rw [List.getElem?_set_self (by simpa using hl')] at hj
      cases hj
      exact hP1 1 _ rfl
    · rw [List.getElem?_set_ne (Ne.symm hjk')] at hj
      by_cases hjk : j = k
      · subst hjk
        rw [List.getElem?_set_self hl] at hj
        cases hj
        exact hP1 0 _ rfl
      · rw [List.getElem?_set_ne (Ne.symm hjk)] at hj
        have hlt := (hP j q hj).lt
        refine (hP j q hj).kept (ho q.1 hlt ?_)
        rintro (⟨i, x, hi⟩ | h)
        · have hz : i < 3 := (List.getElem?_eq_some_iff.mp hi).1
          rcases (show i = 0 ∨ i = 1 ∨ i = 2 by omega) with rfl | rfl | rfl
          · cases hi
            exact hjk (hD.1 j k q (q.1, e) hj hk rfl)
          · cases hi
            exact hjk' (hD.1 j k' q (q.1, f) hj hk' rfl)
          · cases hi
            exact hj2 (hD.1 j k2 q (q.1, g) hj hk2 rfl)
        · omega
/-- a loop, by a measure n -/
theorem tk_loop {p : Program} {l : Launch} {e : Env} {R : Room} {s : State} {m : MethodId} {args : Array Value} {below : List Frame} {meth : Method} {c : Code} {cells slots : Nat} {Q : State → Prop} {σ : Type} (pc : Nat) (I : Nat → σ → Heap → List Loc → Array Slot → Prop)
    (step : ∀ (n : Nat) (x : σ) (H : Heap) (locs : List Loc) (ls : Array Slot), I n x H locs ls → (∀ (n' : Nat) (x' : σ) (H' : Heap) (locs' : List Loc) (ls' : Array Slot), n' < n → I n' x' H' locs' ls' → W p l e R s m args below meth c H' locs' cells slots Q (F0 m pc ls' [])) → W p l e R s m args below meth c H locs cells slots Q (F0 m pc ls []))
    (n : Nat) (x : σ) {H : Heap} {locs : List Loc} {ls : Array Slot} (h : I n x H locs ls) : W p l e R s m args below meth c H locs cells slots Q (F0 m pc ls []) := by
  have key : ∀ (k n : Nat) (x : σ) (H : Heap) (locs : List Loc) (ls : Array Slot), n < k → I n x H locs ls → W p l e R s m args below meth c H locs cells slots Q (F0 m pc ls []) := by
    intro k
    induction k with
    | zero => intro n x H locs ls h; omega
    | succ k ih => intro n x H locs ls hn hI; exact step n x H locs ls hI (fun n' x' H' locs' ls' hn' hI' => ih n' x' H' locs' ls' (by omega) hI')
  exact key (n + 1) n x H locs ls (by omega) h
/-- an array's contents matter below its length alone -/
theorem tk_cellc {cA : ClassId} {N : Nat} {f g : Nat → Int32} (h : ∀ j, j < N → f j = g j) : vp_cell cA (N, .inl f) = vp_cell cA (N, .inl g) := by
  rw [vp_cell_i, vp_cell_i]
  have e : ∀ k : Nat, (arrV cA N (fun j => Value.int (f j))).slots[k]? = (arrV cA N (fun j => Value.int (g j))).slots[k]? := by
    intro k
    by_cases hk : k < N
    · rw [arrV_read _ _ hk, arrV_read _ _ hk, h k hk]
    · rw [Array.getElem?_eq_none (by rw [arrV_size]; omega), Array.getElem?_eq_none (by rw [arrV_size]; omega)]
  have e2 : (arrV cA N (fun j => Value.int (f j))).slots = (arrV cA N (fun j => Value.int (g j))).slots := Array.ext_getElem? e
  unfold arrV at e2 ⊢
  simp only at e2 ⊢
  rw [e2]
