/-! spans as bits -/
def tb (x : Int32) (k : Nat) : Bool := x.toBitVec.toNat.testBit k
theorem tb_or {x y : Int32} {k : Nat} : tb (x ||| y) k = (tb x k || tb y k) := by
  unfold tb
  rw [Int32.toBitVec_or, BitVec.toNat_or, Nat.testBit_or]
theorem tb_and {x y : Int32} {k : Nat} : tb (x &&& y) k = (tb x k && tb y k) := by
  unfold tb
  rw [Int32.toBitVec_and, BitVec.toNat_and, Nat.testBit_and]
theorem tb_big {x : Int32} {k : Nat} (h : 32 ≤ k) : tb x k = false := by
  unfold tb
  exact Nat.testBit_lt_two_pow (Nat.lt_of_lt_of_le x.toBitVec.isLt (Nat.pow_le_pow_right (by decide) h))
theorem tb_zero {x : Int32} : x = 0 ↔ ∀ k, k < 32 → tb x k = false := by
  constructor
  · intro h k _
    subst h
    exact Nat.zero_testBit k
  · intro h
    have h2 : x.toBitVec.toNat = 0 := Nat.eq_of_testBit_eq (fun k => by
      rw [Nat.zero_testBit]
      rcases Nat.lt_or_ge k 32 with q | q
      · exact h k q
      · exact tb_big q)
    have h3 : x.toBitVec = 0#32 := BitVec.eq_of_toNat_eq (by rw [h2]; rfl)
    exact Int32.toBitVec_inj.mp h3
theorem sh_k : ∀ o : Nat, o < 32 → ((iI (o : Int) &&& 31).toBitVec.smod 32).toNat = o := by decide +kernel
theorem su_k : ∀ o : Nat, o < 32 → (((iI (32 - (o : Int)) &&& iI 31).toUInt32 &&& Int32.toUInt32 31).toBitVec % 32).toNat = (32 - o) % 32 := by decide +kernel
theorem ut_k : ∀ o : Nat, o < 32 → (((iI (o : Int)).toUInt32 &&& Int32.toUInt32 31).toBitVec % 32).toNat = o := by decide +kernel
theorem tb_shl {x s : Int32} {o k : Nat} (hs : (s.toBitVec.smod 32).toNat = o) (hk : k < 32) : tb (x <<< s) k = (decide (o ≤ k) && tb x (k - o)) := by
  unfold tb
  rw [pk_shl x s o hs, Nat.testBit_mod_two_pow, Nat.testBit_mul_two_pow]
  rw [decide_eq_true hk, Bool.true_and]
theorem tb_ushr {x s : Int32} {o k : Nat} (hs : ((s.toUInt32 &&& Int32.toUInt32 31).toBitVec % 32).toNat = o) : tb ((x.toUInt32 >>> (s.toUInt32 &&& Int32.toUInt32 31)).toInt32) k = tb x (o + k) := by
  unfold tb
  rw [pk_ushr x s o hs, Nat.testBit_div_two_pow, Nat.add_comm]
/-- a mask turned by an offset, bit by bit -/
theorem spW_at {m : Int} {o k : Nat} (ho : o < 32) (hk : k < 32) : tb (spW m (o : Int)) k = tb (iI m) ((k + 32 - o) % 32) := by
  unfold spW
  rw [tb_or, tb_shl (sh_k o ho) hk, tb_ushr (su_k o ho)]
  rcases Nat.eq_zero_or_pos o with h0 | h0
  · subst h0
    rw [show (32 - 0) % 32 = 0 from rfl, Nat.zero_add, Nat.sub_zero, decide_eq_true (Nat.zero_le k), Bool.true_and, Bool.or_self, show (k + 32 - 0) % 32 = k by omega]
  · rw [show (32 - o) % 32 = 32 - o by omega]
    rcases Nat.lt_or_ge k o with h | h
    · rw [decide_eq_false (show ¬ o ≤ k by omega), Bool.false_and, Bool.false_or, show (k + 32 - o) % 32 = 32 - o + k by omega]
    · rw [decide_eq_true h, Bool.true_and, tb_big (show 32 ≤ 32 - o + k by omega), Bool.or_false, show (k + 32 - o) % 32 = k - o by omega]
theorem tb_one {o k : Nat} (ho : o < 32) (hk : k < 32) : tb (iI 1 <<< (iI (o : Int) &&& 31)) k = decide (k = o) := by
  rw [tb_shl (sh_k o ho) hk]
  have h1 : ∀ j, tb (iI 1) j = decide (j = 0) := fun j => by
    show Nat.testBit 1 j = _
    match j with
    | 0 => rfl
    | j + 1 => rw [Nat.testBit_succ, show 1 / 2 = 0 from rfl, Nat.zero_testBit]; rfl
  rw [h1]
  by_cases h : k = o
  · subst h; simp
  · by_cases h2 : o ≤ k
    · rw [decide_eq_false (show ¬ k - o = 0 by omega), decide_eq_false h, Bool.and_false]
    · rw [decide_eq_false h2, decide_eq_false h, Bool.false_and]
theorem tb_bit {a : Int} (ha : -2147483648 ≤ a ∧ a ≤ 2147483647) {k : Nat} (hk : k < 32) : tb (iI 1 <<< ((iI a &&& iI 31) &&& 31)) k = decide ((k : Int) = a % 32) := by
  have h : iI a &&& iI 31 = iI (a % 32) := iI_mask 5 (by decide) ha
  obtain ⟨o, ho⟩ : ∃ o : Nat, a % 32 = (o : Int) := ⟨(a % 32).toNat, by omega⟩
  rw [h, ho, tb_one (by omega) hk]
  by_cases q : k = o
  · rw [decide_eq_true q, decide_eq_true (by omega)]
  · rw [decide_eq_false q, decide_eq_false (by omega)]
theorem sfI_at {b f : Int} (hb : 0 ≤ b ∧ b ≤ 100000) (hf : 0 ≤ f ∧ f ≤ 100000) {x : Int32} {k : Nat} (hk : k < 32) : ∀ n : Nat, n ≤ 100 → (tb (sfI b f n x) k = true ↔ tb x k = true ∨ ∃ u : Nat, u < n ∧ (k : Int) = (b + f + ((u : Int) - 1)) % 32)
  | 0, _ => ⟨fun h => Or.inl h, fun h => h.elim id (fun ⟨_, h, _⟩ => absurd h (Nat.not_lt_zero _))⟩
  | n + 1, hn => by
    show tb (sfI b f n x ||| (iI 1 <<< ((iI (b + f + ((n : Int) - 1)) &&& iI 31) &&& 31))) k = true ↔ _
    rw [tb_or, Bool.or_eq_true, sfI_at hb hf hk n (by omega), tb_bit (by omega) hk, decide_eq_true_eq]
    constructor
    · rintro ((h | ⟨u, h1, h2⟩) | h)
      · exact Or.inl h
      · exact Or.inr ⟨u, by omega, h2⟩
      · exact Or.inr ⟨n, by omega, h⟩
    · rintro (h | ⟨u, h1, h2⟩)
      · exact Or.inl (Or.inl h)
      · rcases Nat.lt_succ_iff_lt_or_eq.mp h1 with q | q
        · exact Or.inl (Or.inr ⟨u, q, h2⟩)
        · subst q; exact Or.inr h2
theorem sfO_at {b p s : Int} (hb : 0 ≤ b ∧ b ≤ 100000) (hp : p = 8 ∨ p = 16 ∨ p = 32) (hs : 1 ≤ s ∧ s ≤ 4) {k : Nat} (hk : k < 32) : ∀ m : Nat, m ≤ 4 → (tb (sfO b p s m) k = true ↔ ∃ i : Nat, i < m ∧ ∃ u : Nat, u < (s + 1).toNat ∧ (k : Int) = (b + (i : Int) * p + ((u : Int) - 1)) % 32)
  | 0, _ => by
    constructor
    · intro h
      have : tb (iI 0) k = false := tb_zero.mp rfl k hk
      rw [show sfO b p s 0 = iI 0 from rfl, this] at h
      cases h
    · rintro ⟨i, h, -⟩
      exact absurd h (Nat.not_lt_zero _)
  | m + 1, hm => by
    have hmp : 0 ≤ (m : Int) * p ∧ (m : Int) * p ≤ 100000 := by rcases hp with h | h | h <;> subst h <;> omega
    show tb (sfI b ((m : Int) * p) (s + 1).toNat (sfO b p s m)) k = true ↔ _
    rw [sfI_at hb hmp hk _ (by omega), sfO_at hb hp hs hk m (by omega)]
    constructor
    · rintro (⟨i, h1, h2⟩ | ⟨u, h1, h2⟩)
      · exact ⟨i, by omega, h2⟩
      · exact ⟨m, by omega, u, h1, h2⟩
    · rintro ⟨i, h1, u, h2, h3⟩
      rcases Nat.lt_succ_iff_lt_or_eq.mp h1 with q | q
      · exact Or.inl ⟨i, q, u, h2, h3⟩
      · subst q; exact Or.inr ⟨u, h2, h3⟩
/-- the spans of a stream with offset 0 -/
theorem sfF_at {b p s : Int} (hb : 0 ≤ b ∧ b ≤ 100000) (hp : p = 8 ∨ p = 16 ∨ p = 32) (hs : 1 ≤ s ∧ s ≤ 4) {k : Nat} (hk : k < 32) : tb (sfF b p s) k = true ↔ ((k : Int) - b + 1) % p ≤ s := by
  unfold sfF
  rw [sfO_at hb hp hs hk _ (by rcases hp with h | h | h <;> subst h <;> decide)]
  constructor
  · rintro ⟨i, h1, u, h2, h3⟩
    rcases hp with h | h | h <;> subst h <;> omega
  · intro h
    rcases hp with q | q | q <;> subst q
    · exact ⟨((((k : Int) - b + 1) / 8) % 4).toNat, by omega, (((k : Int) - b + 1) % 8).toNat, by omega, by omega⟩
    · exact ⟨((((k : Int) - b + 1) / 16) % 2).toNat, by omega, (((k : Int) - b + 1) % 16).toNat, by omega, by omega⟩
    · exact ⟨0, by omega, (((k : Int) - b + 1) % 32).toNat, by omega, by omega⟩
/-- .. with an offset -/
theorem spW_sf {m b p s : Int} {o k : Nat} (hb : 0 ≤ b ∧ b ≤ 100000) (hp : p = 8 ∨ p = 16 ∨ p = 32) (hs : 1 ≤ s ∧ s ≤ 4) (hm : iI m = sfF b p s) (ho : o < 32) (hk : k < 32) : tb (spW m (o : Int)) k = true ↔ ((k : Int) - ((o : Int) + b - 1)) % p ≤ s := by
  rw [spW_at ho hk, hm, sfF_at hb hp hs (by omega)]
  rcases hp with h | h | h <;> subst h <;> omega
theorem hsA_iff {P : mS} {j t : Int} (hb : 0 ≤ P 4 j ∧ P 4 j ≤ 100000) (hp : P 0 0 = 8 ∨ P 0 0 = 16 ∨ P 0 0 = 32) (hs : 1 ≤ P 1 0 ∧ P 1 0 ≤ 4) (hm : iI (P 6 j) = sfF (P 4 j) (P 0 0) (P 1 0)) (ho : 0 ≤ P 7 0 ∧ P 7 0 < 32) (ht : -2147483648 ≤ t ∧ t ≤ 2147483647) : hsA P j t = true ↔ (t - (P 7 0 + P 4 j - 1)) % P 0 0 ≤ P 1 0 := by
  have h : iI t &&& iI 31 = iI (t % 32) := iI_mask 5 (by decide) ht
  obtain ⟨k, hk⟩ : ∃ k : Nat, t % 32 = (k : Int) := ⟨(t % 32).toNat, by omega⟩
  obtain ⟨o, ho2⟩ : ∃ o : Nat, P 7 0 = (o : Int) := ⟨(P 7 0).toNat, by omega⟩
  have hk32 : k < 32 := by omega
  have e : hsA P j t = tb (spW (P 6 j) (P 7 0)) k := by
    unfold hsA
    rw [h, hk]
    have h1 : ∀ x : Int32, (x &&& iI 1 = iI 1) ↔ tb x 0 = true := fun x => by
      have e1 : x &&& iI 1 = nI (x.toBitVec.toNat % 2 ^ 1) := pk_and x 1 rfl
      rw [e1, show iI 1 = nI 1 from rfl, nI_eq (by omega) (by decide)]
      unfold tb
      rw [Nat.testBit_zero, decide_eq_true_eq]
    by_cases q : tb (spW (P 6 j) (P 7 0)) k = true
    · rw [q]
      exact decide_eq_true ((h1 _).mpr (by rw [tb_ushr (ut_k k hk32), Nat.add_zero]; exact q))
    · rw [Bool.eq_false_iff.mpr q]
      exact decide_eq_false (fun w => q (by have := (h1 _).mp w; rw [tb_ushr (ut_k k hk32), Nat.add_zero] at this; exact this))
  rw [e, ho2, spW_sf hb hp hs hm (by omega) hk32]
  rcases hp with h | h | h <;> rw [h] <;> omega
