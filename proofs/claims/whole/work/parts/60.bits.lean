/-! BITS: a byte of a number, put in and read out -/
theorem b255_i8 (x : Int32) : x.toInt8.toInt32 &&& 255 = x &&& 255 := by
  apply Int32.toBitVec_inj.mp
  apply BitVec.eq_of_getLsbD_eq
  intro i hi
  have h255 : ∀ j, j < 32 → (255#32 : BitVec 32).getLsbD j = decide (j < 8) := by decide
  rw [Int32.toBitVec_and, Int32.toBitVec_and, BitVec.getLsbD_and, BitVec.getLsbD_and]
  show (_ && (255#32 : BitVec 32).getLsbD i) = (_ && (255#32 : BitVec 32).getLsbD i)
  rw [h255 i hi]
  by_cases h8 : i < 8
  · have e : x.toInt8.toInt32.toBitVec.getLsbD i = x.toBitVec.getLsbD i := by
      rw [Int8.toBitVec_toInt32, Int32.toBitVec_toInt8, BitVec.getLsbD_signExtend, BitVec.getLsbD_signExtend]
      simp [h8, hi]
    rw [e]
  · simp [h8]
theorem b255_n (x : Int32) : x &&& 255 = nI (x.toBitVec.toNat % 256) := pk_and x 8 rfl
theorem b255_ushr (x s : Int32) (k : Nat) (hs : ((s.toUInt32 &&& Int32.toUInt32 31).toBitVec % 32).toNat = k) : (x.toUInt32 >>> (s.toUInt32 &&& Int32.toUInt32 31)).toInt32.toInt8.toInt32 &&& 255 = nI (x.toBitVec.toNat / 2 ^ k % 256) := by
  rw [b255_i8, b255_n, pk_ushr x s k hs]
theorem b255_shr (x s : Int32) (k : Nat) (hk : k ≤ 24) (hs : (s.toBitVec.smod 32).toNat = k) : (x >>> s) &&& 255 = nI (x.toBitVec.toNat / 2 ^ k % 256) := by
  rw [b255_n]
  congr 1
  have e : (x >>> s).toBitVec = x.toBitVec.sshiftRight k := by
    rw [← hs]
    rfl
  rw [e]
  have key : (x.toBitVec.sshiftRight k).toNat % 256 = (x.toBitVec >>> k).toNat % 256 := by
    apply Nat.eq_of_testBit_eq
    intro i
    rw [show (256 : Nat) = 2 ^ 8 from rfl, Nat.testBit_mod_two_pow, Nat.testBit_mod_two_pow]
    by_cases h8 : i < 8
    · rw [BitVec.testBit_toNat, BitVec.testBit_toNat, BitVec.getLsbD_sshiftRight, BitVec.getLsbD_ushiftRight]
      have h1 : ¬ 32 ≤ i := by omega
      have h2 : k + i < 32 := by omega
      simp [h1, h2]
    · simp [h8]
  rw [key, BitVec.toNat_ushiftRight, Nat.shiftRight_eq_div_pow]
abbrev tn (x : Int32) : Nat := x.toBitVec.toNat
theorem tn_lt (x : Int32) : tn x < 4294967296 := x.toBitVec.isLt
theorem tn_nI {n : Nat} (h : n < 4294967296) : tn (nI n) = n := pk_tn h
theorem nI_tn (x : Int32) : nI (tn x) = x := by
  apply Int32.toBitVec_inj.mp
  apply BitVec.eq_of_toNat_eq
  rw [pk_tn (tn_lt x)]
theorem nI_or {a b : Nat} (ha : a < 4294967296) (hb : b < 4294967296) : nI a ||| nI b = nI (a ||| b) := by
  apply Int32.toBitVec_inj.mp
  apply BitVec.eq_of_toNat_eq
  rw [Int32.toBitVec_or, BitVec.toNat_or, pk_tn ha, pk_tn hb, pk_tn (Nat.or_lt_two_pow (n := 32) ha hb)]
theorem nI_glue {a b k : Nat} (s : Int32) (hs : (s.toBitVec.smod 32).toNat = k) (hk : b < 2 ^ k) (h : a * 2 ^ k + b < 4294967296) : (nI a <<< s) ||| nI b = nI (a * 2 ^ k + b) := by
  rw [pk_shlN s k hs (by omega), nI_or (by omega) (by omega)]
  congr 1
  rw [Nat.mul_comm, ← Nat.two_pow_add_eq_or_of_lt hk]
/-- two bytes -/
theorem tb2_n {f : Nat → Int32} {n a b : Nat} (ha : a < 256) (hb : b < 256) (h1 : f n &&& 255 = nI a) (h2 : f (n + 1) &&& 255 = nI b) : tb2 f n = nI (a * 256 + b) := by
  unfold tb2
  rw [h1, h2]
  exact nI_glue (k := 8) _ rfl hb (by omega)
/-- a page's bytes: stamps, place, values -/
def gw (sF sL pl : Int32) (V : Nat → Int32) (i : Nat) : Int32 := if i < 2 then nI (tn sF / 2 ^ (8 * (1 - i)) % 256) else if 509 < i then nI (tn sL / 2 ^ (8 * (511 - i)) % 256) else if i < 6 then nI (tn pl / 2 ^ (8 * (5 - i)) % 256) else V i
theorem gw_0 {sF sL pl : Int32} {V : Nat → Int32} : gw sF sL pl V 0 = nI (tn sF / 256 % 256) := rfl
theorem gw_1 {sF sL pl : Int32} {V : Nat → Int32} : gw sF sL pl V 1 = nI (tn sF / 1 % 256) := rfl
theorem gw_510 {sF sL pl : Int32} {V : Nat → Int32} : gw sF sL pl V 510 = nI (tn sL / 256 % 256) := rfl
theorem gw_511 {sF sL pl : Int32} {V : Nat → Int32} : gw sF sL pl V 511 = nI (tn sL / 1 % 256) := rfl
theorem gw_2 {sF sL pl : Int32} {V : Nat → Int32} : gw sF sL pl V 2 = nI (tn pl / 16777216 % 256) := rfl
theorem gw_3 {sF sL pl : Int32} {V : Nat → Int32} : gw sF sL pl V 3 = nI (tn pl / 65536 % 256) := rfl
theorem gw_4 {sF sL pl : Int32} {V : Nat → Int32} : gw sF sL pl V 4 = nI (tn pl / 256 % 256) := rfl
theorem gw_5 {sF sL pl : Int32} {V : Nat → Int32} : gw sF sL pl V 5 = nI (tn pl / 1 % 256) := rfl
theorem gw_v {sF sL pl : Int32} {V : Nat → Int32} {i : Nat} (h1 : 6 ≤ i) (h2 : i ≤ 509) : gw sF sL pl V i = V i := by
  unfold gw
  rw [if_neg (by omega), if_neg (by omega), if_neg (by omega)]
/-- as the reference reads it -/
def gv (sF sL pl : Int32) (V : Int32 → Int32) (y : Int32) : Int32 := (if 2 ≤ y then (if y ≤ 509 then (if 6 ≤ y then (V y) else ((pl >>> (((8 * ((4 - 1) - (y - 2))) : Int32) &&& 31)) &&& 255)) else ((sL >>> (((8 * ((2 - 1) - (y - 510))) : Int32) &&& 31)) &&& 255)) else ((sF >>> (((8 * ((2 - 1) - y)) : Int32) &&& 31)) &&& 255))
theorem gv_gw {sF sL pl : Int32} {V : Int32 → Int32} {i : Nat} (hi : i < 512) : gv sF sL pl V (nI i) = gw sF sL pl (fun j => V (nI j)) i := by
  have cases : i = 0 ∨ i = 1 ∨ i = 2 ∨ i = 3 ∨ i = 4 ∨ i = 5 ∨ i = 510 ∨ i = 511 ∨ (6 ≤ i ∧ i ≤ 509) := by omega
  rcases cases with rfl | rfl | rfl | rfl | rfl | rfl | rfl | rfl | ⟨h1, h2⟩
  · exact (b255_shr sF _ 8 (by omega) rfl)
  · exact (b255_shr sF _ 0 (by omega) rfl)
  · exact (b255_shr pl _ 24 (by omega) rfl)
  · exact (b255_shr pl _ 16 (by omega) rfl)
  · exact (b255_shr pl _ 8 (by omega) rfl)
  · exact (b255_shr pl _ 0 (by omega) rfl)
  · exact (b255_shr sL _ 8 (by omega) rfl)
  · exact (b255_shr sL _ 0 (by omega) rfl)
  · rw [gw_v h1 h2]
    have c2 : (2 : Int32) ≤ nI i := nI_le (a := 2) (b := i) (by omega) (by omega)
    have c6 : (6 : Int32) ≤ nI i := nI_le (a := 6) (b := i) (by omega) (by omega)
    have c9 : nI i ≤ (509 : Int32) := nI_le (a := i) (b := 509) h2 (by decide)
    unfold gv
    rw [if_pos c2, if_pos c9, if_pos c6]
/-- a page's stamps and place, read back -/
theorem gw_st {f : Nat → Int32} {o S : Nat} {sF sL pl sL' pl' : Int32} {V V' : Nat → Int32} (h0 : f o &&& 255 = gw sF sL pl V 0) (h1 : f (o + 1) &&& 255 = gw sF sL' pl' V' 1) (hs : sF = nI S) (hS : S < 65536) : tb2 f o = nI S := by
  rw [gw_0, hs, tn_nI (by omega)] at h0
  rw [gw_1, hs, tn_nI (by omega), Nat.div_one] at h1
  rw [tb2_n (Nat.mod_lt _ (by decide)) (Nat.mod_lt _ (by decide)) h0 h1]
  congr 1
  omega
theorem gw_sl {f : Nat → Int32} {o S : Nat} {sF sL pl sF' pl' : Int32} {V V' : Nat → Int32} (h0 : f o &&& 255 = gw sF sL pl V 510) (h1 : f (o + 1) &&& 255 = gw sF' sL pl' V' 511) (hs : sL = nI S) (hS : S < 65536) : tb2 f o = nI S := by
  rw [gw_510, hs, tn_nI (by omega)] at h0
  rw [gw_511, hs, tn_nI (by omega), Nat.div_one] at h1
  rw [tb2_n (Nat.mod_lt _ (by decide)) (Nat.mod_lt _ (by decide)) h0 h1]
  congr 1
  omega
theorem gw_pl {f : Nat → Int32} {sF sL pl : Int32} {V : Nat → Int32} (h : ∀ i, i < 512 → f i &&& 255 = gw sF sL pl V i) : plB f = pl := by
  have h2 := h 2 (by decide)
  have h3 := h 3 (by decide)
  have h4 := h 4 (by decide)
  have h5 := h 5 (by decide)
  rw [gw_2] at h2
  rw [gw_3] at h3
  rw [gw_4] at h4
  rw [gw_5, Nat.div_one] at h5
  unfold plB
  rw [tb2_n (Nat.mod_lt _ (by decide)) (Nat.mod_lt _ (by decide)) h2 h3, tb2_n (Nat.mod_lt _ (by decide)) (Nat.mod_lt _ (by decide)) h4 h5]
  have hp := tn_lt pl
  generalize e : tn pl = P at hp ⊢
  refine (nI_glue (k := 16) _ rfl (by omega) (by omega)).trans ?_
  rw [← nI_tn pl, e]
  congr 1
  omega
/-- stamps put in -/
theorem gw_psB {f : Nat → Int32} {x sF sL pl : Int32} {V : Nat → Int32} {i : Nat} (hi : i < 512) (h : f i &&& 255 = gw sF sL pl V i) : psB f x i &&& 255 = gw x x pl V i := by
  unfold psB
  by_cases e511 : i = 511
  · subst e511; rw [pk_us, gw_511, b255_i8, b255_n, Nat.div_one]
  rw [pk_un e511]
  by_cases e510 : i = 510
  · subst e510; rw [pk_us, gw_510]; exact b255_ushr x 8 8 rfl
  rw [pk_un e510]
  by_cases e1 : i = 1
  · subst e1; rw [pk_us, gw_1, b255_i8, b255_n, Nat.div_one]
  rw [pk_un e1]
  by_cases e0 : i = 0
  · subst e0; rw [pk_us, gw_0]; exact b255_ushr x 8 8 rfl
  rw [pk_un e0, h]
  have n2 : ¬ i < 2 := by omega
  have n9 : ¬ 509 < i := by omega
  unfold gw
  rw [if_neg n2, if_neg n2, if_neg n9, if_neg n9]
/-- a change put in -/
theorem gw_chB {f : Nat → Int32} {v p' sF sL pl : Int32} {V V' : Nat → Int32} {k i : Nat} (hk1 : 6 ≤ k) (hk2 : k ≤ 509) (hi : i < 512) (h : f i &&& 255 = gw sF sL pl V i) (hV : V' k = v &&& 255) (hV2 : i ≠ k → V' i = V i) : chB f k v p' i &&& 255 = gw sF sL p' V' i := by
  unfold chB
  by_cases e5 : i = 5
  · subst e5; rw [pk_us, gw_5, b255_i8, b255_n, Nat.div_one]
  rw [pk_un e5]
  by_cases e4 : i = 4
  · subst e4; rw [pk_us, gw_4]; exact b255_ushr p' 8 8 rfl
  rw [pk_un e4]
  by_cases e3 : i = 3
  · subst e3; rw [pk_us, gw_3]; exact b255_ushr p' 16 16 rfl
  rw [pk_un e3]
  by_cases e2 : i = 2
  · subst e2; rw [pk_us, gw_2]; exact b255_ushr p' 24 24 rfl
  rw [pk_un e2]
  by_cases ek : i = k
  · subst ek; rw [pk_us, gw_v hk1 hk2, hV, b255_i8]
  rw [pk_un ek, h]
  unfold gw
  by_cases a1 : i < 2
  · rw [if_pos a1, if_pos a1]
  rw [if_neg a1, if_neg a1]
  by_cases a2 : 509 < i
  · rw [if_pos a2, if_pos a2]
  rw [if_neg a2, if_neg a2, if_neg (by omega), if_neg (by omega), hV2 ek]
theorem fit_chB {f : Nat → Int32} {k : Nat} {v p : Int32} (h : sb_Fit f) : sb_Fit (chB f k v p) := sb_fitU (sb_fitU (sb_fitU (sb_fitU (sb_fitU h (pk_fb _)) (pk_fb _)) (pk_fb _)) (pk_fb _)) (pk_fb _)
theorem rs1_n {S : Nat} (h : S < 65535) : rs1 (nI S) = nI (S + 1) := by
  unfold rs1
  rw [nI_1, show (65536 : Int32) = nI 65536 from rfl, pk_rem (by omega) (by decide) (by decide), Nat.mod_eq_of_lt (by omega)]
