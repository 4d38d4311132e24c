/-! the reference's side of a write of a frame -/
abbrev MS : Type := Int32 × Int32 × (Nat → Int32) × Int32 × Int32 × (Nat → Int32) × (Nat → Int32) × (Nat → Int32) × (Nat → Int32) × (Nat → Int32)
def mwrt (mcp mcl mpl mpg : Nat → Int32) (bN pgN : Nat → Nat) (u : Nat) (X : MS) (i : Nat) : MS := ((if (plcF mcp mcl mpl (mpg i) (bN i) (u - (bN i))) ≤ X.2.1 then X.1 else X.1 + 1), (if (plcF mcp mcl mpl (mpg i) (bN i) (u - (bN i))) ≤ X.2.1 then X.2.1 else (plcF mcp mcl mpl (mpg i) (bN i) (u - (bN i)))), (upd X.2.2.1 i (rs1 (X.2.2.1 i))), (mlA X.2.2.2.1 8), (X.2.2.2.2.1 + nI 8), (secF X.2.2.2.2.2.1 (pgN i) (nI (bN i)) 8), (secF X.2.2.2.2.2.2.1 (pgN i) (nI u) 8), (fsF X.2.2.2.2.2.2.2.1 (pgN i) (rs1 (X.2.2.1 i)) 8), (lsF X.2.2.2.2.2.2.2.2.1 (pgN i) (rs1 (X.2.2.1 i)) 8), (upd X.2.2.2.2.2.2.2.2.2 i 0))
theorem mwrt_eq (mcp mcl mpl mpg : Nat → Int32) (bN pgN : Nat → Nat) (u : Nat) (X : MS) (i : Nat) : mwrt mcp mcl mpl mpg bN pgN u X i = ((if (plcF mcp mcl mpl (mpg i) (bN i) (u - (bN i))) ≤ X.2.1 then X.1 else X.1 + 1), (if (plcF mcp mcl mpl (mpg i) (bN i) (u - (bN i))) ≤ X.2.1 then X.2.1 else (plcF mcp mcl mpl (mpg i) (bN i) (u - (bN i)))), (upd X.2.2.1 i (rs1 (X.2.2.1 i))), (mlA X.2.2.2.1 8), (X.2.2.2.2.1 + nI 8), (secF X.2.2.2.2.2.1 (pgN i) (nI (bN i)) 8), (secF X.2.2.2.2.2.2.1 (pgN i) (nI u) 8), (fsF X.2.2.2.2.2.2.2.1 (pgN i) (rs1 (X.2.2.1 i)) 8), (lsF X.2.2.2.2.2.2.2.2.1 (pgN i) (rs1 (X.2.2.1 i)) 8), (upd X.2.2.2.2.2.2.2.2.2 i 0)) := by unfold mwrt; exact Eq.refl _
def acM (mpg mpn : Nat → Int32) (X : MS) (f : Nat) : Bool := decide (¬ mpg f < 0 ∧ mpn f = 0 ∧ ¬ X.2.2.2.2.2.2.2.2.2 f = 0)
def asM (X : MS) (f : Nat) : Bool := decide (¬ X.2.2.2.2.2.2.2.2.2 f = 0)
def mlOK (lf : Int32) : Prop := ∀ z, z < 8 → ¬ mlA lf z = 0
theorem cf_rem {q k : Nat} (hq : q < 12) (hk : k ≤ 12) : (nI q + nI k) - (nI q + nI k) / 12 * 12 = nI (cf q k) := by
  rw [nI_add, show (12 : Int32) = nI 12 from rfl, pk_rem (by omega) (by decide) (by decide)]
  rfl
