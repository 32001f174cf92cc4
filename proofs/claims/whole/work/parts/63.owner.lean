/-! a schedule of the reference and its planned streams -/
def PSR (S : mS) (p q : Int) (P : mS) : Prop := (P 0 0 = S 8 p ∧ P 1 0 = S 9 p ∧ P 7 0 = S 10 p ∧ P 8 0 = ((laF S q : Nat) : Int) + 1) ∧ (∀ j : Nat, j ≤ laF S q → P 3 (j : Int) = S 11 (q + (j : Int)) ∧ P 4 (j : Int) = binF S p q j ∧ P 5 (j : Int) = binF S p q j + S 9 p + S 12 (q + (j : Int)) ∧ iI (P 6 (j : Int)) = sfF (binF S p q j) (S 8 p) (S 9 p)) ∧ ((1 ≤ P 2 0 ∧ P 2 0 ≤ 60) ∧ latP P ≤ P 2 0) ∧ mSi S p q ∧ ∀ x y : Nat, x ≤ laF S q → y ≤ laF S q → S 11 (q + (x : Int)) = S 11 (q + (y : Int)) → x = y
theorem mSi_last {S : mS} {p q : Int} (h : mSi S p q) {x : Nat} (hx : x < 3) : 0 ≤ S 11 (q + (x : Int)) ↔ x ≤ laF S q := by
  obtain ⟨-, -, -, k0, k1, k2, k3, -⟩ := h
  unfold laF
  match x, hx with
  | 0, _ =>
    have : S 11 (q + ((0 : Nat) : Int)) = S 11 q := by congr 1; exact Int.add_zero _
    rw [this]
    exact ⟨fun _ => Nat.zero_le _, fun _ => k0.1⟩
  | 1, _ =>
    show 0 ≤ S 11 (q + 1) ↔ _
    split
    · constructor
      · intro _; omega
      · intro _; omega
    · split <;> omega
  | 2, _ =>
    show 0 ≤ S 11 (q + 2) ↔ _
    split
    · omega
    · split <;> omega
theorem PSR.pw {S : mS} {p q : Int} {P : mS} (h : PSR S p q P) : PW P := by
  obtain ⟨⟨h0, h1, h7, h8⟩, hj, hd, hm, -⟩ := h
  have hm0 := id hm
  obtain ⟨m8, m9, m10, -, -, -, -, a0, a1, a2⟩ := hm
  have hla := laF_le S q
  refine ⟨by omega, by omega, by omega, hd.1, fun j j0 j1 => ?_, by omega⟩
  obtain ⟨i, rfl⟩ : ∃ i : Nat, j = (i : Int) := ⟨j.toNat, by omega⟩
  obtain ⟨g3, g4, g5, -⟩ := hj i (by omega)
  have hb := binF_r hm0 i (by omega)
  have hp := mSi_path hm0 (j := i) (by omega)
  have ha : 0 ≤ S 12 (q + (i : Int)) ∧ S 12 (q + (i : Int)) ≤ 9 := by
    rcases (show i = 0 ∨ i = 1 ∨ i = 2 by omega) with rfl | rfl | rfl
    · simpa using a0
    · exact a1
    · exact a2
  rw [g3, g4, g5]
  exact ⟨hp, by omega, by omega⟩
theorem fstN_congr {f g : Nat → Bool} : ∀ {n : Nat}, (∀ i, i < n → f i = g i) → fstN n f = fstN n g
  | 0, _ => rfl
  | n + 1, h => by
    show (if 0 ≤ fstN n f then fstN n f else if f n = true then (n : Int) else -1) = (if 0 ≤ fstN n g then fstN n g else if g n = true then (n : Int) else -1)
    rw [fstN_congr (fun i hi => h i (Nat.lt_succ_of_lt hi)), h n (Nat.lt_succ_self n)]
/-- which hop a link is -/
theorem hop_iff {S : mS} {p q : Int} {P : mS} (h : PSR S p q P) {w : Int} (j : Nat) : hopF P w = (j : Int) ↔ j ≤ laF S q ∧ S 11 (q + (j : Int)) = w := by
  obtain ⟨⟨h0, h1, h7, h8⟩, hj, hd, hm, hdis⟩ := h
  constructor
  · intro e
    have hr := fstN_r (n := (P 8 0).toNat) (f := fun j => decide (P 3 (j : Int) = w))
    have hjl : j ≤ laF S q := by unfold hopF at e; omega
    refine ⟨hjl, ?_⟩
    by_cases hx : P 3 (j : Int) = w
    · rw [← (hj j hjl).1]; exact hx
    · exfalso
      by_cases hall : ∃ k, k < (P 8 0).toNat ∧ P 3 (k : Int) = w
      · obtain ⟨k, k1, k2⟩ := hall
        have hkl : k ≤ laF S q := by omega
        have e2 : hopF P w = (k : Int) := fstN_hit (f := fun j => decide (P 3 (j : Int) = w)) (fun i hi => decide_eq_false (fun z => by
          have := hdis i k (by omega) hkl (by rw [← (hj i (by omega)).1, ← (hj k hkl).1, z, k2])
          omega)) (decide_eq_true k2) k1
        rw [e2] at e
        have : k = j := by omega
        subst this
        exact hx k2
      · have e2 : hopF P w = -1 := fstN_none (f := fun j => decide (P 3 (j : Int) = w)) (fun i hi => decide_eq_false (fun z => hall ⟨i, hi, z⟩))
        omega
  · rintro ⟨hjl, e⟩
    exact fstN_hit (f := fun j => decide (P 3 (j : Int) = w)) (fun i hi => decide_eq_false (fun z => by
      have := hdis i j (by omega) hjl (by rw [← (hj i (by omega)).1, z, e])
      omega)) (decide_eq_true (by rw [(hj j hjl).1]; exact e)) (by omega)
theorem hop_cases {S : mS} {p q : Int} {P : mS} (h : PSR S p q P) (w : Int) : hopF P w = -1 ∨ ∃ j : Nat, j ≤ laF S q ∧ hopF P w = (j : Int) ∧ S 11 (q + (j : Int)) = w := by
  have hr := hopF_r h.pw w
  rcases Int.lt_or_le (hopF P w) 0 with q0 | q0
  · exact Or.inl (by omega)
  · obtain ⟨j, hj⟩ : ∃ j : Nat, hopF P w = (j : Int) := ⟨(hopF P w).toNat, by omega⟩
    obtain ⟨a, b⟩ := (hop_iff h j).mp hj
    exact Or.inr ⟨j, a, hj, b⟩
theorem PSR.hs {S : mS} {p q : Int} {P : mS} (h : PSR S p q P) {j : Nat} (hj : j ≤ laF S q) {t : Int} (ht : -2147483648 ≤ t ∧ t ≤ 2147483647) : hsA P (j : Int) t = true ↔ (t - (S 10 p + binF S p q j - 1)) % S 8 p ≤ S 9 p := by
  obtain ⟨⟨h0, h1, h7, h8⟩, hjj, hd, hm, hdis⟩ := h
  obtain ⟨g3, g4, g5, g6⟩ := hjj j hj
  have hb := binF_r hm j (by have := laF_le S q; omega)
  have hla := laF_le S q
  obtain ⟨m8, m9, m10, -⟩ := hm
  rw [hsA_iff (by omega) (by rw [h0]; exact m8) (by omega) (by rw [g6, g4, h0, h1]) (by omega) ht, h0, h1, h7, g4]
theorem own_iff {S : mS} {k : Int} {Q : Nat → mS} {i : Nat} (h : PSR S (5 * k + (i : Int)) (15 * k + 3 * (i : Int)) (Q i)) {w t : Int} (hw : 0 ≤ w) (ht : -2147483648 ≤ t ∧ t ≤ 2147483647) : owI Q w t i = spI S k w t i := by
  have e : owI Q w t i = true ↔ spI S k w t i = true := by
    unfold owI spI
    rw [Bool.and_eq_true, decide_eq_true_eq, anyN_iff]
    constructor
    · rintro ⟨h1, h2⟩
      rcases hop_cases h w with q | ⟨j, j1, j2, j3⟩
      · exact absurd q h1
      · refine ⟨j, by have := laF_le S (15 * k + 3 * (i : Int)); omega, ?_⟩
        rw [j2] at h2
        unfold spAt
        rw [decide_eq_true j3, decide_eq_true ((h.hs j1 ht).mp h2)]
        rfl
    · rintro ⟨j, j1, j2⟩
      unfold spAt at j2
      rw [Bool.and_eq_true, decide_eq_true_eq, decide_eq_true_eq] at j2
      have hjl := (mSi_last h.2.2.2.1 j1).mp (by rw [j2.1]; exact hw)
      have e := (hop_iff h (w := w) j).mpr ⟨hjl, j2.1⟩
      rw [e]
      exact ⟨by omega, (h.hs hjl ht).mpr j2.2⟩
  cases h1 : owI Q w t i <;> cases h2 : spI S k w t i <;> simp_all
def SCH (S : mS) (k : Int) (n : Int) (Q : Nat → mS) : Prop := (-1 ≤ n ∧ n ≤ 5) ∧ S 7 k = n ∧ (∀ i : Nat, (i : Int) < n → PSR S (5 * k + (i : Int)) (15 * k + 3 * (i : Int)) (Q i)) ∧ NMt Q n.toNat
theorem SCH.own {S : mS} {k n : Int} {Q : Nat → mS} (h : SCH S k n Q) {w t : Int} (hw : 0 ≤ w) (ht : -2147483648 ≤ t ∧ t ≤ 2147483647) : owF n.toNat Q w t = spF S k w t := by
  unfold owF spF
  rw [h.2.1]
  exact fstN_congr (fun i hi => own_iff (h.2.2.1 i (by omega)) hw ht)
theorem SCH.mSch {S : mS} {k n : Int} {Q : Nat → mS} (h : SCH S k n Q) : mSch S k := by
  obtain ⟨h1, h2, h3, -⟩ := h
  refine ⟨by rw [h2]; exact h1, fun i i0 i1 => ?_⟩
  obtain ⟨j, rfl⟩ : ∃ j : Nat, i = (j : Int) := ⟨i.toNat, by omega⟩
  exact (h3 j (by omega)).2.2.2.1
theorem SCH.pw {S : mS} {k n : Int} {Q : Nat → mS} (h : SCH S k n Q) : ∀ i, i < n.toNat → PW (Q i) := fun i hi => (h.2.2.1 i (by omega)).pw
/-- another state with the same rows -/
theorem PSR_k {S T : mS} {p q p' q' : Int} {P : mS} (h8 : T 8 p' = S 8 p) (h9 : T 9 p' = S 9 p) (h10 : T 10 p' = S 10 p) (h11 : ∀ j : Nat, j < 3 → T 11 (q' + (j : Int)) = S 11 (q + (j : Int))) (h12 : ∀ j : Nat, j < 3 → T 12 (q' + (j : Int)) = S 12 (q + (j : Int))) (h : PSR S p q P) : PSR T p' q' P := by
  have a0 : T 11 q' = S 11 q := by have := h11 0 (by decide); simpa using this
  have a1 : T 11 (q' + 1) = S 11 (q + 1) := h11 1 (by decide)
  have a2 : T 11 (q' + 2) = S 11 (q + 2) := h11 2 (by decide)
  have b0 : T 12 q' = S 12 q := by have := h12 0 (by decide); simpa using this
  have b1 : T 12 (q' + 1) = S 12 (q + 1) := h12 1 (by decide)
  have b2 : T 12 (q' + 2) = S 12 (q + 2) := h12 2 (by decide)
  have hl : laF T q' = laF S q := by unfold laF; rw [a1, a2]
  have hb : ∀ j : Nat, j ≤ 3 → binF T p' q' j = binF S p q j := fun j => by
    induction j with
    | zero => intro _; rfl
    | succ j ih =>
      intro hj
      show binF T p' q' j + T 9 p' + T 12 (q' + (j : Int)) + 2 = binF S p q j + S 9 p + S 12 (q + (j : Int)) + 2
      rw [ih (by omega), h9, h12 j (by omega)]
  have hla := laF_le S q
  obtain ⟨⟨g0, g1, g7, g8⟩, gj, gd, gm, gdis⟩ := h
  refine ⟨⟨by rw [h8]; exact g0, by rw [h9]; exact g1, by rw [h10]; exact g7, by rw [hl]; exact g8⟩, fun j hj => ?_, gd, ?_, fun x y hx hy e => ?_⟩
  · rw [hl] at hj
    rw [hb j (by omega), h8, h9, h11 j (by omega), h12 j (by omega)]
    exact gj j hj
  · unfold mSi at gm ⊢
    rw [h8, h9, h10, a0, a1, a2, b0, b1, b2]
    exact gm
  · rw [hl] at hx hy
    rw [h11 x (by omega), h11 y (by omega)] at e
    exact gdis x y hx hy e
theorem SCH_k {S T : mS} {k n : Int} {Q : Nat → mS} (h : SCH S k n Q) (hk : ∀ r, 7 ≤ r → r ≤ 12 → T r = S r) : SCH T k n Q :=
  ⟨h.1, by rw [hk 7 (by decide) (by decide)]; exact h.2.1, fun i hi => PSR_k (by rw [hk 8 (by decide) (by decide)]) (by rw [hk 9 (by decide) (by decide)]) (by rw [hk 10 (by decide) (by decide)]) (fun j _ => by rw [hk 11 (by decide) (by decide)]) (fun j _ => by rw [hk 12 (by decide) (by decide)]) (h.2.2.1 i hi), h.2.2.2⟩
