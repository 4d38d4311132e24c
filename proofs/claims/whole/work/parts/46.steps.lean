/-! STEPS OVER FRAMES AND PAGES: any state, a write of one frame, in the order of the hand or of the pages -/
def cf (q k : Nat) : Nat := (q + k) % 12
theorem cf_lt {q k : Nat} : cf q k < 12 := Nat.mod_lt _ (by decide)
theorem cf_0 {q : Nat} (h : q < 12) : cf q 0 = q := Nat.mod_eq_of_lt h
theorem cf_s (q k : Nat) : nxt (cf q k) = cf q (k + 1) := by
  unfold nxt cf
  split <;> omega
def clG {σ : Type} (act : σ → Nat → Bool) (wr : σ → Nat → σ) (n q : Nat) (X : σ) : Nat → σ × Nat
  | 0 => (X, 0)
  | k + 1 => if (clG act wr n q X k).2 < n ∧ act (clG act wr n q X k).1 (cf q k) = true then (wr (clG act wr n q X k).1 (cf q k), (clG act wr n q X k).2 + 1) else clG act wr n q X k
section CLG
variable {σ : Type} {act : σ → Nat → Bool} {wr : σ → Nat → σ} {n q : Nat} {X : σ}
theorem clG_yes {k : Nat} (h : (clG act wr n q X k).2 < n) (h2 : act (clG act wr n q X k).1 (cf q k) = true) : clG act wr n q X (k + 1) = (wr (clG act wr n q X k).1 (cf q k), (clG act wr n q X k).2 + 1) := if_pos ⟨h, h2⟩
theorem clG_no {k : Nat} (h2 : ¬ act (clG act wr n q X k).1 (cf q k) = true) : clG act wr n q X (k + 1) = clG act wr n q X k := if_neg (fun h => h2 h.2)
theorem clG_full {k : Nat} (h : ¬ (clG act wr n q X k).2 < n) : clG act wr n q X (k + 1) = clG act wr n q X k := if_neg (fun g => h g.1)
theorem clG_stop {k j : Nat} (h : ¬ (clG act wr n q X k).2 < n) : clG act wr n q X (k + j) = clG act wr n q X k := by
  induction j with
  | zero => rfl
  | succ j ih => rw [← Nat.add_assoc, clG_full (by rw [ih]; exact h), ih]
theorem clG_le (k : Nat) : (clG act wr n q X k).2 ≤ k := by
  induction k with
  | zero => exact Nat.le_refl 0
  | succ k ih =>
    unfold clG
    split
    · exact Nat.succ_le_succ ih
    · omega
theorem clG_mono {k j : Nat} (h : k ≤ j) : (clG act wr n q X k).2 ≤ (clG act wr n q X j).2 := by
  induction j with
  | zero => rw [show k = 0 by omega]; exact Nat.le_refl _
  | succ j ih =>
    rcases Nat.lt_or_ge k (j + 1) with g | g
    · refine Nat.le_trans (ih (by omega)) ?_
      conv => rhs; unfold clG
      split
      · exact Nat.le_succ _
      · exact Nat.le_refl _
    · rw [show k = j + 1 by omega]; exact Nat.le_refl _
theorem clG_ind (I : σ → Nat → Prop) (h0 : I X 0) (hs : ∀ Y c f, f < 12 → c < n → act Y f = true → I Y c → I (wr Y f) (c + 1)) (k : Nat) : I (clG act wr n q X k).1 (clG act wr n q X k).2 := by
  induction k with
  | zero => exact h0
  | succ k ih =>
    by_cases h : (clG act wr n q X k).2 < n ∧ act (clG act wr n q X k).1 (cf q k) = true
    · rw [clG_yes h.1 h.2]; exact hs _ _ _ cf_lt h.1 h.2 ih
    · rw [show clG act wr n q X (k + 1) = clG act wr n q X k from if_neg h]; exact ih
end CLG
def swG {σ : Type} (act : σ → Nat → Bool) (wr : σ → Nat → σ) (fo : Nat → Nat) (X : σ) : Nat → σ × Nat
  | 0 => (X, 0)
  | p + 1 => if fo p < 12 ∧ act (swG act wr fo X p).1 (fo p) = true then (wr (swG act wr fo X p).1 (fo p), (swG act wr fo X p).2 + 1) else swG act wr fo X p
section SWG
variable {σ : Type} {act : σ → Nat → Bool} {wr : σ → Nat → σ} {fo : Nat → Nat} {X : σ}
theorem swG_yes {p : Nat} (h : fo p < 12) (h2 : act (swG act wr fo X p).1 (fo p) = true) : swG act wr fo X (p + 1) = (wr (swG act wr fo X p).1 (fo p), (swG act wr fo X p).2 + 1) := if_pos ⟨h, h2⟩
theorem swG_no {p : Nat} (h2 : ¬ (fo p < 12 ∧ act (swG act wr fo X p).1 (fo p) = true)) : swG act wr fo X (p + 1) = swG act wr fo X p := if_neg h2
theorem swG_skip {p j : Nat} (h : ∀ r, p ≤ r → r < p + j → ¬ (fo r < 12 ∧ act (swG act wr fo X p).1 (fo r) = true)) : swG act wr fo X (p + j) = swG act wr fo X p := by
  induction j with
  | zero => rfl
  | succ j ih =>
    have e := ih (fun r h1 h2 => h r h1 (by omega))
    rw [← Nat.add_assoc, swG_no (by rw [e]; exact h (p + j) (by omega) (by omega)), e]
theorem swG_ind (I : σ → Nat → Prop) (h0 : I X 0) (hs : ∀ Y c p, fo p < 12 → act Y (fo p) = true → I Y c → I (wr Y (fo p)) (c + 1)) (p : Nat) : I (swG act wr fo X p).1 (swG act wr fo X p).2 := by
  induction p with
  | zero => exact h0
  | succ p ih =>
    by_cases h : fo p < 12 ∧ act (swG act wr fo X p).1 (fo p) = true
    · rw [swG_yes h.1 h.2]; exact hs _ _ _ h.1 h.2 ih
    · rw [swG_no h]; exact ih
theorem swG_indp (I : Nat → σ → Nat → Prop) (h0 : I 0 X 0) (hs : ∀ p Y c, fo p < 12 → act Y (fo p) = true → I p Y c → I (p + 1) (wr Y (fo p)) (c + 1)) (hn : ∀ p Y c, ¬ (fo p < 12 ∧ act Y (fo p) = true) → I p Y c → I (p + 1) Y c) (p : Nat) : I p (swG act wr fo X p).1 (swG act wr fo X p).2 := by
  induction p with
  | zero => exact h0
  | succ p ih =>
    by_cases h : fo p < 12 ∧ act (swG act wr fo X p).1 (fo p) = true
    · rw [swG_yes h.1 h.2]; exact hs _ _ _ h.1 h.2 ih
    · rw [swG_no h]; exact hn _ _ _ h ih
end SWG
/-- how many of the first z are not 0 -/
def cntD (di : Nat → Int32) : Nat → Nat
  | 0 => 0
  | z + 1 => cntD di z + if di z = 0 then 0 else 1
theorem cntD_le (di : Nat → Int32) (z : Nat) : cntD di z ≤ z := by
  induction z with
  | zero => exact Nat.le_refl 0
  | succ z ih => simp only [cntD]; split <;> omega
theorem cntD_up {di : Nat → Int32} {f : Nat} (hd : ¬ di f = 0) : ∀ z : Nat, cntD (upd di f 0) z + (if f < z then 1 else 0) = cntD di z
  | 0 => by simp [cntD]
  | z + 1 => by
    have ih := cntD_up hd z
    simp only [cntD]
    by_cases e : z = f
    · subst e
      rw [if_neg (Nat.lt_irrefl z)] at ih
      rw [pk_us, if_pos rfl, if_neg hd, if_pos (Nat.lt_succ_self z)]
      omega
    · rw [pk_un e]
      have e2 : (if f < z + 1 then 1 else 0 : Nat) = if f < z then 1 else 0 := by
        by_cases g : f < z
        · rw [if_pos g, if_pos (by omega)]
        · rw [if_neg g, if_neg (by omega)]
      rw [e2]
      omega
theorem cntD_pos {di : Nat → Int32} {f z : Nat} (hd : ¬ di f = 0) (hf : f < z) : 0 < cntD di z := by
  have h := cntD_up hd z
  rw [if_pos hf] at h
  omega
/-! THE DESK's SIDE: dirty marks, bytes, disk, charge, sectors written, log's end, flushes -/
abbrev DS : Type := (Nat → Int32) × (Nat → Nat → Int32) × (Nat → Int32) × Int32 × Int32 × Int32 × Int32
def dwrt (pgN : Nat → Nat) (X : DS) (i : Nat) : DS := (upd X.1 i 0, va_up X.2.1 i (psB (X.2.1 i) (tb2 (X.2.1 i) 0 + 1)), wrD X.2.2.1 ((va_up X.2.1 i (psB (X.2.1 i) (tb2 (X.2.1 i) 0 + 1))) i) (pgN i) 8, lfA X.2.2.2.1 8, X.2.2.2.2.1 + nI 8, (if X.2.2.2.2.2.1 < plB (X.2.1 i) then plB (X.2.1 i) else X.2.2.2.2.2.1), (if X.2.2.2.2.2.1 < plB (X.2.1 i) then X.2.2.2.2.2.2 + 1 else X.2.2.2.2.2.2))
def actC (pn : Nat → Int32) (X : DS) (f : Nat) : Bool := decide (¬ X.1 f = 0 ∧ pn f ≤ 0)
def actS (X : DS) (f : Nat) : Bool := decide (¬ X.1 f = 0)
/-- where it was dirty, and bytes -/
def dsI (di : Nat → Int32) (X : DS) : Prop := ∀ f, f < 12 → (¬ X.1 f = 0 → ¬ di f = 0) ∧ sb_Fit (X.2.1 f)
theorem dsI_wr {di : Nat → Int32} {pgN : Nat → Nat} {X : DS} {i : Nat} (h : dsI di X) (hi : i < 12) : dsI di (dwrt pgN X i) := by
  intro f hf
  refine ⟨fun hd => ?_, ?_⟩
  · by_cases e : f = i
    · subst e; exact absurd pk_us hd
    · exact (h f hf).1 (fun g => hd ((pk_un e).trans g))
  · show sb_Fit (va_up X.2.1 i _ f)
    by_cases e : f = i
    · subst e; rw [va_up_self]; exact fit_psB (h f hf).2
    · rw [va_up_ne _ _ e]; exact (h f hf).2
/-- the charge does for a page -/
def lfOK (lf : Int32) : Prop := ∀ z, z < 8 → ¬ lfA lf z = 0
theorem dlR_ex (pg di : Nat → Int32) : ∀ z : Nat, z ≤ 12 → ∃ r, dlR pg di z r
  | 0, _ => ⟨-1, dlR_0 pg di⟩
  | z + 1, h => by
    obtain ⟨r, hr⟩ := dlR_ex pg di z (by omega)
    by_cases hd : di z = 0
    · exact ⟨r, dlR_clean hr hd⟩
    · rcases dlR_is hr with e | ⟨i, hi, e⟩
      · subst e; exact ⟨nI z, dlR_first hr (by omega) hd⟩
      · subst e
        by_cases hp : pg z < pg i
        · exact ⟨nI z, dlR_less hr (by omega) (by omega) hd hp⟩
        · exact ⟨nI i, dlR_keep hr (by omega) (by omega) hp⟩
