/-! field by field: what a put makes of a cell -/
section CSET
variable {dA : Nat → ClassId} {cd : Nat → Nat} {C : mS} {R : cR} {k : Nat} {v : Int}
theorem tkS1 (h : 13 ≤ k ∧ k < 18) : (.inr (5, (tkFs cd C R k).set 1 (.int (iI v))) : va_E) = cE dA cd (mw C k 1 v) R k := by rw [cE_tk h]; simp [tkFs, mw]
theorem tkS2 (h : 13 ≤ k ∧ k < 18) : (.inr (5, (tkFs cd C R k).set 2 (.int (iI v))) : va_E) = cE dA cd (mw C k 2 v) R k := by rw [cE_tk h]; simp [tkFs, mw]
theorem tkS3 (h : 13 ≤ k ∧ k < 18) : (.inr (5, (tkFs cd C R k).set 3 (.int (iI v))) : va_E) = cE dA cd (mw C k 3 v) R k := by rw [cE_tk h]; simp [tkFs, mw]
theorem tkS4 (h : 13 ≤ k ∧ k < 18) : (.inr (5, (tkFs cd C R k).set 4 (.int (iI v))) : va_E) = cE dA cd (mw C k 4 v) R k := by rw [cE_tk h]; simp [tkFs, mw]
theorem tkS5 (h : 13 ≤ k ∧ k < 18) : (.inr (5, (tkFs cd C R k).set 5 (.int (iI v))) : va_E) = cE dA cd (mw C k 5 v) R k := by rw [cE_tk h]; simp [tkFs, mw]
theorem tkS6 (h : 13 ≤ k ∧ k < 18) : (.inr (5, (tkFs cd C R k).set 6 (.int (iI v))) : va_E) = cE dA cd (mw C k 6 v) R k := by rw [cE_tk h]; simp [tkFs, mw]
theorem tkS7 (h : 13 ≤ k ∧ k < 18) : (.inr (5, (tkFs cd C R k).set 7 (.int (iI v))) : va_E) = cE dA cd (mw C k 7 v) R k := by rw [cE_tk h]; simp [tkFs, mw]
theorem tkS8 (h : 13 ≤ k ∧ k < 18) : (.inr (5, (tkFs cd C R k).set 8 (.int (iI v))) : va_E) = cE dA cd (mw C k 8 v) R k := by rw [cE_tk h]; simp [tkFs, mw]
theorem tkR0 {r : Option Nat} (h : 13 ≤ k ∧ k < 18) : (.inr (5, (tkFs cd C R k).set 0 (va_rf r)) : va_E) = cE dA cd C (rwr R k 0 r) k := by rw [cE_tk h]; simp [tkFs, rwr]
theorem ptS0 (h : 24 ≤ k ∧ k < 30) : (.inr (1, (ptFs cd C k).set 0 (.int (iI v))) : va_E) = cE dA cd (mw C k 0 v) R k := by rw [cE_pt h]; simp [ptFs, mw]
theorem ptS1 (h : 24 ≤ k ∧ k < 30) : (.inr (1, (ptFs cd C k).set 1 (.int (iI v))) : va_E) = cE dA cd (mw C k 1 v) R k := by rw [cE_pt h]; simp [ptFs, mw]
theorem ptS3 (h : 24 ≤ k ∧ k < 30) : (.inr (1, (ptFs cd C k).set 3 (.int (iI v))) : va_E) = cE dA cd (mw C k 3 v) R k := by rw [cE_pt h]; simp [ptFs, mw]
theorem ptS4 (h : 24 ≤ k ∧ k < 30) : (.inr (1, (ptFs cd C k).set 4 (.int (iI v))) : va_E) = cE dA cd (mw C k 4 v) R k := by rw [cE_pt h]; simp [ptFs, mw]
theorem cE_x : cE dA cd C R 0 = .inr (6, xFs cd C R) := rfl
theorem cE_se : cE dA cd C R 3 = .inr (3, seFs cd C) := rfl
theorem seS0 : (.inr (3, (seFs cd C).set 0 (.int (iI v))) : va_E) = cE dA cd (mw C 3 0 v) R 3 := by rw [cE_se]; simp [seFs, mw]
theorem xS2 : (.inr (6, (xFs cd C R).set 2 (.int (iI v))) : va_E) = cE dA cd (mw C 0 2 v) R 0 := by rw [cE_x]; simp [xFs, mw]
theorem xS9 : (.inr (6, (xFs cd C R).set 9 (.int (iI v))) : va_E) = cE dA cd (mw C 0 9 v) R 0 := by rw [cE_x]; simp [xFs, mw]
theorem xR4 {r : Option Nat} : (.inr (6, (xFs cd C R).set 4 (va_rf r)) : va_E) = cE dA cd C (rwr R 0 4 r) 0 := by rw [cE_x]; simp [xFs, rwr]
theorem xR5 {r : Option Nat} : (.inr (6, (xFs cd C R).set 5 (va_rf r)) : va_E) = cE dA cd C (rwr R 0 5 r) 0 := by rw [cE_x]; simp [xFs, rwr]
theorem xR6 {r : Option Nat} : (.inr (6, (xFs cd C R).set 6 (va_rf r)) : va_E) = cE dA cd C (rwr R 0 6 r) 0 := by rw [cE_x]; simp [xFs, rwr]
theorem nzb {v : Int} (h : v = 0 ∨ v = 1) : narrow .boolean (.int (iI v)) = .int (iI v) ∧ fits .boolean (.int (iI v)) = true := by rcases h with rfl | rfl <;> exact ⟨rfl, rfl⟩
end CSET
/-! what the class's small methods compute -/
/-- a mask turned round by an offset -/
def spW (m off : Int) : Int32 := (iI m <<< (iI off &&& 31)) ||| ((iI m).toUInt32 >>> ((iI (32 - off) &&& iI 31).toUInt32 &&& Int32.toUInt32 31)).toInt32
def hsA (P : mS) (hop t : Int) : Bool := decide (((spW (P 6 hop) (P 7 0)).toUInt32 >>> ((iI t &&& iI 31).toUInt32 &&& Int32.toUInt32 31)).toInt32 &&& iI 1 = iI 1)
def sfI (b f : Int) : Nat → Int32 → Int32
  | 0, x => x
  | n + 1, x => sfI b f n x ||| (iI 1 <<< ((iI (b + f + ((n : Int) - 1)) &&& iI 31) &&& 31))
def sfO (b p s : Int) : Nat → Int32
  | 0 => iI 0
  | m + 1 => sfI b ((m : Int) * p) (s + 1).toNat (sfO b p s m)
def sfF (b p s : Int) : Int32 := sfO b p s (32 / p).toNat
/-- how many hops; a planned stream's ranges -/
def PW (P : mS) : Prop := (1 ≤ P 8 0 ∧ P 8 0 ≤ 3) ∧ (P 0 0 = 8 ∨ P 0 0 = 16 ∨ P 0 0 = 32) ∧ (1 ≤ P 1 0 ∧ P 1 0 ≤ 4) ∧ (1 ≤ P 2 0 ∧ P 2 0 ≤ 60) ∧ (∀ j, 0 ≤ j → j < P 8 0 → (0 ≤ P 3 j ∧ P 3 j < 6) ∧ (0 ≤ P 4 j ∧ P 4 j ≤ 100) ∧ (0 ≤ P 5 j ∧ P 5 j ≤ 100)) ∧ (0 ≤ P 7 0 ∧ P 7 0 < 32)
/-- which hop a link is on the path, -1 for none -/
def hopF (P : mS) (w : Int) : Int := fstN (P 8 0).toNat fun j => decide (P 3 (j : Int) = w)
theorem iI_mask {a : Int} (k : Nat) (hk : k ≤ 30) (ha : -2147483648 ≤ a ∧ a ≤ 2147483647) : iI a &&& iI (2 ^ k - 1) = iI (a % 2 ^ k) := by
  have h1 : (iI (2 ^ k - 1)).toBitVec.toNat = 2 ^ k - 1 := by
    have : (2 : Nat) ^ k ≤ 2 ^ 30 := Nat.pow_le_pow_right (by decide) hk
    have e : ((2 : Int) ^ k - 1) = (((2 : Nat) ^ k - 1 : Nat) : Int) := by
      have := Nat.one_le_two_pow (n := k)
      rw [Int.natCast_sub this]
      simp
    rw [e]
    show (BitVec.ofInt 32 (((2 ^ k - 1 : Nat)) : Int)).toNat = _
    rw [BitVec.ofInt_natCast, BitVec.toNat_ofNat]
    exact Nat.mod_eq_of_lt (by omega)
  rw [pk_and (iI a) k h1]
  have h2 : (iI a).toBitVec.toNat % 2 ^ k = (a % 2 ^ k).toNat := by
    show (BitVec.ofInt 32 a).toNat % 2 ^ k = _
    rw [BitVec.toNat_ofInt]
    have h0 : 0 ≤ a % ((2 ^ 32 : Nat) : Int) := Int.emod_nonneg a (by decide)
    have h4 : (((a % ((2 ^ 32 : Nat) : Int)).toNat % 2 ^ k : Nat) : Int) = a % 2 ^ k := by
      rw [Int.natCast_emod, Int.toNat_of_nonneg h0]
      have hd : ((2 ^ k : Nat) : Int) ∣ ((2 ^ 32 : Nat) : Int) := Int.natCast_dvd_natCast.mpr (Nat.pow_dvd_pow 2 (by omega))
      rw [Int.emod_emod_of_dvd _ hd]
      simp
    omega
  rw [h2]
  show Int32.ofNat _ = Int32.ofInt _
  rw [← Int32.ofInt_eq_ofNat]
  congr 1
  have : 0 ≤ a % 2 ^ k := Int.emod_nonneg a (by
    have : (0 : Int) < 2 ^ k := Int.pow_pos (by decide)
    omega)
  omega
