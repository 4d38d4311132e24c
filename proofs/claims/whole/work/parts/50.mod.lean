/-! THE REFERENCE's WORLD: its object, then its sixteen arrays -/
def mw (h : Nat) (ad : Nat → Nat) (ka : Nat → ClassId) (mth mnw : Int32) (mcp mcb mcv mcl mbl mpl mfm mto mfs mls mpg mpn mus mdi mst mbs : Nat → Int32) (mhd men mfl mrd mwn mlf : Int32) : va_W :=
  [(h, .inr (4, [.int mth, .int mnw, .ref (ad 0), .ref (ad 1), .ref (ad 2), .ref (ad 3), .ref (ad 4), .ref (ad 5), .ref (ad 6), .ref (ad 7), .ref (ad 8), .ref (ad 9), .ref (ad 10), .ref (ad 11), .ref (ad 12), .ref (ad 13), .ref (ad 14), .ref (ad 15), .int mhd, .int men, .int mfl, .int mrd, .int mwn, .int mlf])),
   (ad 0, .inl (ka 2, 520, .inl mcp)), (ad 1, .inl (ka 2, 520, .inl mcb)), (ad 2, .inl (ka 2, 520, .inl mcv)), (ad 3, .inl (ka 3, 520, .inl mcl)), (ad 4, .inl (ka 4, 520, .inl mbl)), (ad 5, .inl (ka 4, 520, .inl mpl)), (ad 6, .inl (ka 2, 1536, .inl mfm)), (ad 7, .inl (ka 2, 1536, .inl mto)), (ad 8, .inl (ka 3, 192, .inl mfs)), (ad 9, .inl (ka 3, 192, .inl mls)),
   (ad 10, .inl (ka 3, 12, .inl mpg)), (ad 11, .inl (ka 3, 12, .inl mpn)), (ad 12, .inl (ka 3, 12, .inl mus)), (ad 13, .inl (ka 4, 12, .inl mdi)), (ad 14, .inl (ka 3, 12, .inl mst)), (ad 15, .inl (ka 3, 12, .inl mbs))]
/-- the addresses alone say that the cells are apart -/
theorem tk_Dmap {A : Nat → Prop} {ws ws' : va_W} (h : ws.map (fun q => q.1) = ws'.map (fun q => q.1)) (hD : va_D A ws) : va_D A ws' := by
  have key : ∀ (j : Nat) (q : Nat × va_E), ws'[j]? = some q → ∃ e, ws[j]? = some (q.1, e) := by
    intro j q hj
    have h1 : (ws'.map (fun q => q.1))[j]? = some q.1 := by rw [List.getElem?_map, hj]; rfl
    rw [← h, List.getElem?_map] at h1
    cases h2 : ws[j]? with
    | none => rw [h2] at h1; cases h1
    | some x =>
      rw [h2] at h1
      have e : x.1 = q.1 := Option.some.inj h1
      exact ⟨x.2, by rw [← e]⟩
  refine ⟨fun i j x y hi hj hxy => ?_, fun k q hk => ?_⟩
  · obtain ⟨e1, h1⟩ := key i x hi
    obtain ⟨e2, h2⟩ := key j y hj
    exact hD.1 i j _ _ h1 h2 hxy
  · obtain ⟨e1, h1⟩ := key k q hk
    exact hD.2 k (q.1, e1) h1
theorem mw_D {A : Nat → Prop} {h : Nat} {ad : Nat → Nat} {ka : Nat → ClassId} {a0 a1 : Int32} {b0 b1 b2 b3 b4 b5 b6 b7 b8 b9 b10 b11 b12 b13 b14 b15 : Nat → Int32} {c0 c1 c2 c3 c4 c5 : Int32} {a0' a1' : Int32} {b0' b1' b2' b3' b4' b5' b6' b7' b8' b9' b10' b11' b12' b13' b14' b15' : Nat → Int32} {c0' c1' c2' c3' c4' c5' : Int32} (hD : va_D A (mw h ad ka a0 a1 b0 b1 b2 b3 b4 b5 b6 b7 b8 b9 b10 b11 b12 b13 b14 b15 c0 c1 c2 c3 c4 c5)) : va_D A (mw h ad ka a0' a1' b0' b1' b2' b3' b4' b5' b6' b7' b8' b9' b10' b11' b12' b13' b14' b15' c0' c1' c2' c3' c4' c5') := tk_Dmap (by simp only [mw, List.map_cons, List.map_nil]) hD
section SEL
variable {p : Program} {l : Launch} {e : Env} {R : Room} {s : State} {m : MethodId} {args : Array Value} {below : List Frame} {meth : Method} {c : Code} {H : Heap} {locs : List Loc} {cells slots : Nat} {Q : State → Prop}
/-- a value chosen by branches: the way behind it is walked once -/
theorem tk_sel {g g1 : JFrame} (k1 : W p l e R s m args below meth c H locs cells slots Q g1 → W p l e R s m args below meth c H locs cells slots Q g) (k2 : W p l e R s m args below meth c H locs cells slots Q g1) : W p l e R s m args below meth c H locs cells slots Q g := k1 k2
theorem tk_selx {pc : Nat} {ls : Array Slot} {rest : List Value} {v a : Int32} (h : v = a) (k : W p l e R s m args below meth c H locs cells slots Q (F0 m pc ls (.int v :: rest))) : W p l e R s m args below meth c H locs cells slots Q (F0 m pc ls (.int a :: rest)) := h ▸ k
end SEL
/-- the last change that isn't lost, of k behind b: a byte's value; a page's place -/
def valF (cp cb cv bl : Nat → Int32) (x y : Int32) (b : Nat) : Nat → Int32
  | 0 => 0
  | k + 1 => if cp (b + 1 + k) = x then (if cb (b + 1 + k) = y then (if bl (b + 1 + k) = 0 then cv (b + 1 + k) else valF cp cb cv bl x y b k) else valF cp cb cv bl x y b k) else valF cp cb cv bl x y b k
def plcF (cp cl pl : Nat → Int32) (x : Int32) (b : Nat) : Nat → Int32
  | 0 => 0
  | k + 1 => if cp (b + 1 + k) = x then (if pl (b + 1 + k) = 0 then cl (b + 1 + k) else plcF cp cl pl x b k) else plcF cp cl pl x b k
/-- a frame that has the page x: the last one, or -1 -/
def foM (pg : Nat → Int32) (x : Int32) : Nat → Int32
  | 0 => -1
  | z + 1 => if pg z = x then nI z else foM pg x z
/-- whether all of the first z have pages and pins -/
def apM (pg pn : Nat → Int32) : Nat → Int32
  | 0 => 1
  | z + 1 => if apM pg pn z = 0 then 0 else if pg z < 0 then 0 else if pn z ≤ 0 then 0 else 1
/-- how many of the first z have pages -/
def cnM (pg : Nat → Int32) : Nat → Nat
  | 0 => 0
  | z + 1 => if pg z < 0 then cnM pg z else cnM pg z + 1
theorem cnM_le (pg : Nat → Int32) (z : Nat) : cnM pg z ≤ z := by
  induction z with
  | zero => exact Nat.le_refl 0
  | succ z ih => simp only [cnM]; split <;> omega
