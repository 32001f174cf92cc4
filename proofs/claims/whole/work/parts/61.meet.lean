/-! meeting spans: the reference's arithmetic, the class's masks -/
theorem meet_iff {a b p q n m : Int} (hp : p = 8 ∨ p = 16 ∨ p = 32) (hq : q = 8 ∨ q = 16 ∨ q = 32) (hn : 2 ≤ n ∧ n ≤ 5) (hm : 2 ≤ m ∧ m ≤ 5) : meetF a n p b m q = true ↔ ∃ k : Nat, k < 32 ∧ ((k : Int) - (a - 1)) % p ≤ n - 1 ∧ ((k : Int) - (b - 1)) % q ≤ m - 1 := by
  unfold meetF
  rw [Bool.or_eq_true, decide_eq_true_eq, decide_eq_true_eq]
  rcases hp with h | h | h <;> subst h <;> rcases hq with h | h | h <;> subst h <;> simp only [Int.reduceLT, if_true, if_false, ite_true, ite_false, reduceIte] <;> constructor
  all_goals first
    | (rintro ⟨k, h0, h1, h2⟩; omega)
    | (rintro (h | h)
       · first
         | exact ⟨((b - 1) % 32).toNat, by omega, by omega, by omega⟩
         | exact ⟨((a - 1 + (b - a) % 8) % 32).toNat, by omega, by omega, by omega⟩
         | exact ⟨((a - 1 + (b - a) % 16) % 32).toNat, by omega, by omega, by omega⟩
       · first
         | exact ⟨((a - 1) % 32).toNat, by omega, by omega, by omega⟩
         | exact ⟨((b - 1 + (a - b) % 8) % 32).toNat, by omega, by omega, by omega⟩
         | exact ⟨((b - 1 + (a - b) % 16) % 32).toNat, by omega, by omega, by omega⟩
         | exact ⟨((b - 1 + (a - b) % 32) % 32).toNat, by omega, by omega, by omega⟩)
/-- a planned stream of the stream i -/
def STQ (S : mS) (i : Nat) (P : mS) : Prop := P 0 0 = S 3 (i : Int) ∧ P 1 0 = S 4 (i : Int) ∧ P 2 0 = S 5 (i : Int) ∧ P 8 0 = ((lastF S (i : Int) : Nat) : Int) + 1 ∧ ∀ j : Nat, j ≤ lastF S (i : Int) → P 3 (j : Int) = S 6 (3 * (i : Int) + (j : Int)) ∧ P 4 (j : Int) = begF S (i : Int) j ∧ P 5 (j : Int) = begF S (i : Int) j + S 4 (i : Int) + S 1 (S 6 (3 * (i : Int) + (j : Int))) ∧ iI (P 6 (j : Int)) = sfF (begF S (i : Int) j) (S 3 (i : Int)) (S 4 (i : Int))
theorem lastF_le (S : mS) (i : Int) : lastF S i ≤ 2 := by unfold lastF; split <;> (try split) <;> omega
theorem mSt_last {S : mS} {i : Int} (h : mSt S i) {x : Nat} (hx : x < 3) : 0 ≤ S 6 (3 * i + (x : Int)) ↔ x ≤ lastF S i := by
  obtain ⟨-, -, -, k0, k1, k2, k3⟩ := h
  unfold lastF
  match x, hx with
  | 0, _ =>
    have : S 6 (3 * i + ((0 : Nat) : Int)) = S 6 (3 * i) := by congr 1; exact Int.add_zero _
    rw [this]
    exact ⟨fun _ => Nat.zero_le _, fun _ => k0.1⟩
  | 1, _ =>
    show 0 ≤ S 6 (3 * i + 1) ↔ _
    split
    · constructor
      · intro _; omega
      · intro _; omega
    · split <;> omega
  | 2, _ =>
    show 0 ≤ S 6 (3 * i + 2) ↔ _
    split
    · omega
    · split <;> omega
theorem mSt_beg {S : mS} {i : Int} (h : mSt S i) (hd : mDl S) {x : Nat} (hx : x ≤ lastF S i) : 0 ≤ begF S i x ∧ begF S i x ≤ 100 := by
  have := begF_r hd h.2.1 x (fun q hq => mSt_path h (by omega))
  have := lastF_le S i
  omega
/-- the rows of the taken ticks -/
def spn (P : mS) (l : Int) (k : Nat) : Prop := ∃ h : Nat, (h : Int) < P 8 0 ∧ P 3 (h : Int) = l ∧ tb (spW (P 6 (h : Int)) (P 7 0)) k = true
def TKN (C : mS) (Q : Nat → mS) (m : Nat) : Prop := ∀ l : Int, 0 ≤ l → l < 6 → ∀ k : Nat, k < 32 → (tb (iI (C (6 + m) l)) k = true ↔ ∃ j : Nat, j < m ∧ spn (Q j) l k)
theorem spn_iff {S : mS} {i : Nat} {P : mS} (hP : STQ S i P) (hs : mSt S (i : Int)) (hd : mDl S) {o : Int} (ho : 0 ≤ o ∧ o < 32) {h k : Nat} (hh : h ≤ lastF S (i : Int)) (hk : k < 32) : tb (spW (P 6 (h : Int)) o) k = true ↔ ((k : Int) - (o + begF S (i : Int) h - 1)) % S 3 (i : Int) ≤ S 4 (i : Int) := by
  obtain ⟨o1, rfl⟩ : ∃ o1 : Nat, o = (o1 : Int) := ⟨o.toNat, by omega⟩
  have hb := mSt_beg hs hd hh
  exact spW_sf (by omega) hs.1 hs.2.1 (hP.2.2.2.2 h hh).2.2.2 (by omega) hk
/-- one try: the class's answer is the reference's -/
theorem try_iff {T C : mS} {Q : Nat → mS} {m : Nat} (hst : ∀ j : Nat, j ≤ m → mSt T (j : Int) ∧ STQ T j (Q j)) (hd : mDl T) (hk : TKN C Q m) (h14 : ∀ j : Nat, j < m → Q j 7 0 = T 14 (j : Int) ∧ 0 ≤ T 14 (j : Int) ∧ T 14 (j : Int) < 32) (hm : C 4 (m : Int) = T 14 (m : Int) ∧ 0 ≤ T 14 (m : Int) ∧ T 14 (m : Int) < 32) : fitB C (Q m) m = goodF T m := by
  obtain ⟨hsm, hqm⟩ := hst m (Nat.le_refl _)
  obtain ⟨q0, q1, q2, q8, qj⟩ := id hqm
  have h1 : (decide (Q m 2 0 < latP (Q m))) = !onTF T (m : Int) := by
    have e : latP (Q m) = begF T (m : Int) (lastF T (m : Int)) + T 4 (m : Int) + T 1 (T 6 (3 * (m : Int) + (lastF T (m : Int) : Int))) := by
      show Q m 5 (Q m 8 0 - 1) = _
      rw [q8, show ((lastF T (m : Int) : Nat) : Int) + 1 - 1 = ((lastF T (m : Int) : Nat) : Int) by omega]
      exact (qj _ (Nat.le_refl _)).2.2.1
    unfold onTF
    rw [e, q2]
    by_cases h : begF T (m : Int) (lastF T (m : Int)) + T 4 (m : Int) + T 1 (T 6 (3 * (m : Int) + (lastF T (m : Int) : Int))) ≤ T 5 (m : Int)
    · rw [decide_eq_true h, decide_eq_false (by omega)]; rfl
    · rw [decide_eq_false h, decide_eq_true (by omega)]; rfl
  have h2 : itk C (Q m) m (C 4 (m : Int)) = true ↔ ∃ j : Nat, j < m ∧ smF T (m : Int) (j : Int) = true := by
    unfold itk
    rw [anyN_iff]
    constructor
    · rintro ⟨h, hh, hne⟩
      rw [decide_eq_true_eq] at hne
      have hhl : h ≤ lastF T (m : Int) := by omega
      obtain ⟨k, hk1, hk2⟩ : ∃ k, k < 32 ∧ tb (iI (C (6 + m) (Q m 3 (h : Int))) &&& spW (Q m 6 (h : Int)) (C 4 (m : Int))) k = true := by
        by_cases hall : ∀ k, k < 32 → tb (iI (C (6 + m) (Q m 3 (h : Int))) &&& spW (Q m 6 (h : Int)) (C 4 (m : Int))) k = false
        · exact absurd (tb_zero.mpr hall) hne
        · simp only [Classical.not_forall] at hall
          obtain ⟨k, k1, k2⟩ := hall
          exact ⟨k, k1, by simpa using k2⟩
      rw [tb_and, Bool.and_eq_true] at hk2
      have hpl := mSt_path hsm hhl
      have q3 := (qj h hhl).1
      obtain ⟨j, hj, h9, g1, g2, g3⟩ := (hk _ (by rw [q3]; exact hpl.1) (by rw [q3]; exact hpl.2) k hk1).mp hk2.1
      obtain ⟨hsj, hqj⟩ := hst j (by omega)
      have h9l : h9 ≤ lastF T (j : Int) := by have := hqj.2.2.2.1; omega
      refine ⟨j, hj, ?_⟩
      unfold smF
      rw [anyN_iff]
      refine ⟨h, by have := lastF_le T (m : Int); omega, ?_⟩
      rw [anyN_iff]
      refine ⟨h9, by have := lastF_le T (j : Int); omega, ?_⟩
      unfold smXY
      rw [Bool.and_eq_true, Bool.and_eq_true, decide_eq_true_eq, decide_eq_true_eq]
      refine ⟨⟨hpl.1, by rw [← q3, ← (hqj.2.2.2.2 h9 h9l).1]; exact g2.symm⟩, ?_⟩
      rw [meet_iff hsm.1 hsj.1 (by have := hsm.2.1; omega) (by have := hsj.2.1; omega)]
      have e1 := (spn_iff hqm hsm hd (o := C 4 (m : Int)) (by omega) hhl hk1).mp hk2.2
      have e2 := (spn_iff hqj hsj hd (o := Q j 7 0) (by have := h14 j hj; omega) h9l hk1).mp g3
      rw [hm.1] at e1
      rw [(h14 j hj).1] at e2
      exact ⟨k, hk1, by omega, by omega⟩
    · rintro ⟨j, hj, hsm2⟩
      obtain ⟨hsj, hqj⟩ := hst j (by omega)
      unfold smF at hsm2
      obtain ⟨x, hx, h3⟩ := anyN_iff.mp hsm2
      obtain ⟨y, hy, h4⟩ := anyN_iff.mp h3
      unfold smXY at h4
      rw [Bool.and_eq_true, Bool.and_eq_true, decide_eq_true_eq, decide_eq_true_eq] at h4
      obtain ⟨⟨k1, k2⟩, k3⟩ := h4
      have hxl := (mSt_last hsm hx).mp k1
      have hyl := (mSt_last hsj hy).mp (by rw [← k2]; exact k1)
      rw [meet_iff hsm.1 hsj.1 (by have := hsm.2.1; omega) (by have := hsj.2.1; omega)] at k3
      obtain ⟨k, hk1, m1, m2⟩ := k3
      refine ⟨x, by omega, ?_⟩
      rw [decide_eq_true_eq]
      intro hz
      have hz2 := tb_zero.mp hz k hk1
      rw [tb_and] at hz2
      have e1 := (spn_iff hqm hsm hd (o := C 4 (m : Int)) (by omega) hxl hk1).mpr (by rw [hm.1]; omega)
      have e2 := (spn_iff hqj hsj hd (o := Q j 7 0) (by have := h14 j hj; omega) hyl hk1).mpr (by rw [(h14 j hj).1]; omega)
      have hpl := mSt_path hsm hxl
      have q3 := (qj x hxl).1
      have e3 := (hk (Q m 3 (x : Int)) (by rw [q3]; exact hpl.1) (by rw [q3]; exact hpl.2) k hk1).mpr ⟨j, hj, y, by have := hqj.2.2.2.1; omega, by rw [q3, k2]; exact (hqj.2.2.2.2 y hyl).1, e2⟩
      rw [e1, e3] at hz2
      cases hz2
  unfold fitB goodF
  rw [h1]
  cases ho : onTF T (m : Int) with
  | false => rfl
  | true =>
    cases hi : itk C (Q m) m (C 4 (m : Int)) with
    | true =>
      obtain ⟨j, hj, hs⟩ := h2.mp hi
      have : allN m (fun j => !smF T (m : Int) (j : Int)) = false := by
        cases hb : allN m (fun j => !smF T (m : Int) (j : Int)) with
        | false => rfl
        | true =>
          have := allN_iff.mp hb j hj
          rw [hs] at this
          cases this
      rw [this]; rfl
    | false =>
      have : allN m (fun j => !smF T (m : Int) (j : Int)) = true := allN_iff.mpr (fun j hj => by
        cases hs : smF T (m : Int) (j : Int) with
        | false => rfl
        | true =>
          have := h2.mpr ⟨j, hj, hs⟩
          rw [hi] at this
          cases this)
      rw [this]; rfl
