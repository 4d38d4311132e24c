/-! WORLDS IN RELATION, AS THE LAW SEES THEM -/
section RWL
variable {h dr db lg fa : Nat} {fr fb : Nat → Nat} {ka : Nat → ClassId} {h2 : Nat} {ad : Nat → Nat} {mth mth' : Int32} {k w k' w' : Nat} {Wd Md Wd' Md' : va_W}
theorem RW_W0 (hR : RW h dr db lg fa fr fb ka h2 ad mth k w Wd Md) : ∃ fs, Wd[0]? = some (h, .inr (3, fs)) := by
  obtain ⟨pg, pn, us, di, bt, dk, lf, wn, rd, en, fl, hd, mnw, mcp, mcb, mcv, mcl, mbl, mpl, mfm, mto, mfs, mls, mpg, mpn, mus, mdi, mst, mbs, mhd, men, mfl, mrd, mwn, mlf, pgN, bN, cpN, cbN, fmN, toN, sN, lN, u, q, rfl, rfl, hR⟩ := hR
  exact ⟨_, rfl⟩
theorem RW_M0 (hR : RW h dr db lg fa fr fb ka h2 ad mth k w Wd Md) : ∃ fs, Md[0]? = some (h2, .inr (4, fs)) := by
  obtain ⟨pg, pn, us, di, bt, dk, lf, wn, rd, en, fl, hd, mnw, mcp, mcb, mcv, mcl, mbl, mpl, mfm, mto, mfs, mls, mpg, mpn, mus, mdi, mst, mbs, mhd, men, mfl, mrd, mwn, mlf, pgN, bN, cpN, cbN, fmN, toN, sN, lN, u, q, rfl, rfl, hR⟩ := hR
  exact ⟨_, rfl⟩
theorem dw_map {pg pn us di : Nat → Int32} {bt : Nat → Nat → Int32} {dk : Nat → Int32} {lf wn rd en fl hd : Int32} : (dw h dr db lg fa fr fb ka pg pn us di bt dk lf wn rd en fl hd).map (fun q => q.1) = (dw0 h dr db lg fa fr fb ka).map (fun q => q.1) := rfl
theorem RW_mapW (hR : RW h dr db lg fa fr fb ka h2 ad mth k w Wd Md) : Wd.map (fun q => q.1) = (dw0 h dr db lg fa fr fb ka).map (fun q => q.1) := by
  obtain ⟨pg, pn, us, di, bt, dk, lf, wn, rd, en, fl, hd, mnw, mcp, mcb, mcv, mcl, mbl, mpl, mfm, mto, mfs, mls, mpg, mpn, mus, mdi, mst, mbs, mhd, men, mfl, mrd, mwn, mlf, pgN, bN, cpN, cbN, fmN, toN, sN, lN, u, q, rfl, rfl, hR⟩ := hR
  exact dw_map
theorem RW_mapM (hR : RW h dr db lg fa fr fb ka h2 ad mth k w Wd Md) : Md.map (fun q => q.1) = [h2, ad 0, ad 1, ad 2, ad 3, ad 4, ad 5, ad 6, ad 7, ad 8, ad 9, ad 10, ad 11, ad 12, ad 13, ad 14, ad 15] := by
  obtain ⟨pg, pn, us, di, bt, dk, lf, wn, rd, en, fl, hd, mnw, mcp, mcb, mcv, mcl, mbl, mpl, mfm, mto, mfs, mls, mpg, mpn, mus, mdi, mst, mbs, mhd, men, mfl, mrd, mwn, mlf, pgN, bN, cpN, cbN, fmN, toN, sN, lN, u, q, rfl, rfl, hR⟩ := hR
  rfl
theorem RW_thrown (l : Launch) (dC : Nat → ClassId) (dI : Nat → Nat → Nat) (hR : RW h dr db lg fa fr fb ka h2 ad mth k w Wd Md) : oR l dC dI ka yM_thrown wM_thrown [.ref h2] Md mth := by
  obtain ⟨pg, pn, us, di, bt, dk, lf, wn, rd, en, fl, hd, mnw, mcp, mcb, mcv, mcl, mbl, mpl, mfm, mto, mfs, mls, mpg, mpn, mus, mdi, mst, mbs, mhd, men, mfl, mrd, mwn, mlf, pgN, bN, cpN, cbN, fmN, toN, sN, lN, u, q, rfl, rfl, hR⟩ := hR
  exact ⟨_, _, by decide, by decide, c_M_thrown l dC dI ka h2 ad mth mnw mcp mcb mcv mcl mbl mpl mfm mto mfs mls mpg mpn mus mdi mst mbs mhd men mfl mrd mwn mlf⟩
end RWL
theorem RW_start (h dr db lg fa : Nat) (fr fb : Nat → Nat) (ka : Nat → ClassId) (h2 : Nat) (ad : Nat → Nat) : RW h dr db lg fa fr fb ka h2 ad 0 0 0 (dw0 h dr db lg fa fr fb ka) (mw h2 ad ka 0 0 (fun _ => 0) (fun _ => 0) (fun _ => 0) (fun _ => 0) (fun _ => 0) (fun _ => 0) (fun _ => 0) (fun _ => 0) (fun _ => 0) (fun _ => 0) (dropF (-1) (fun _ => 0) 12) (fun _ => 0) (fun _ => 0) (fun _ => 0) (fun _ => 0) (fun _ => 0) 0 0 0 0 0 (-1)) := RW_mk R_init
theorem app_0 {α : Type} {a b : List α} {x : α} (h : a[0]? = some x) : (a ++ b)[0]? = some x := by
  rw [List.getElem?_append_left (List.getElem?_eq_some_iff.mp h).1]; exact h
theorem app_at {α : Type} {a b : List α} {x : α} : (a ++ x :: b)[a.length]? = some x := by
  rw [List.getElem?_append_right (Nat.le_refl _), Nat.sub_self]; rfl
theorem app_1 {α : Type} {a b : List α} {x y : α} (h : b[0]? = some y) : (a ++ x :: b)[a.length + 1]? = some y := by
  rw [List.getElem?_append_right (by omega), Nat.add_sub_cancel_left]; exact h
section LWR
variable {p : Program} {l : Launch} {e : Env} {R : Room} {s : State} {m : MethodId} {args : Array Value} {below : List Frame} {meth : Method} {c : Code} {H : Heap} {locs : List Loc} {cells slots : Nat} {Q : State → Prop}
variable {cc : ByteArray} {pc : Nat} {ls : Array Slot} {rest : List Value} {A : Nat → Prop} {H0 : Heap}
theorem lw_ld (hexec : p.tables.exec = Jvm.exec) (hb : c.code = cc) {b L : Nat} {xs : Nat → Int32} (hX : va_X b L xs s H0) (hbl : b < H0.size) (hbA : ¬ A b) (hS : va_S A H0 H locs) {i j : Nat} {v : Int32} (hv : v = nI i + nI j) (hij : i + j < L) (hL : L < 2 ^ 31) (hdg : decode cc pc = .ok (.iaload, 1))
    (k : W p l e R s m args below meth c H locs cells slots Q (F0 m (pc + 1) ls (.int (xs (i + j)) :: rest))) : W p l e R s m args below meth c H locs cells slots Q (F0 m pc ls (.int v :: .ref b :: rest)) := by
  subst hv
  rw [nI_add]
  refine va_sld hexec hb hX hbl hbA hS (vp_in_nI hij hL) hdg ?_
  rw [nI_clamp (by omega)]
  exact k
end LWR
