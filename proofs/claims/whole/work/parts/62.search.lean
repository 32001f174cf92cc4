/-! the two searches -/
theorem fit1_at {m : Nat} {P : mS} {off l : Int} {k : Nat} : ∀ (j : Nat) (T : mS), tb (iI (itN j (fit1 m P off) T (6 + (m + 1)) l)) k = true ↔ tb (iI (T (6 + (m + 1)) l)) k = true ∨ ∃ h : Nat, h < j ∧ P 3 (h : Int) = l ∧ tb (spW (P 6 (h : Int)) off) k = true
  | 0, T => ⟨fun h => Or.inl h, fun h => h.elim id (fun ⟨_, h, _⟩ => absurd h (Nat.not_lt_zero _))⟩
  | j + 1, T => by
    show tb (iI (fit1 m P off (itN j (fit1 m P off) T) j (6 + (m + 1)) l)) k = true ↔ _
    have ih := fit1_at (m := m) (P := P) (off := off) (l := l) (k := k) j T
    generalize itN j (fit1 m P off) T = U at ih ⊢
    unfold fit1
    by_cases h : l = P 3 (j : Int)
    · subst h
      rw [mw_s, iI_toI, tb_or, Bool.or_eq_true, ih]
      constructor
      · rintro ((h | ⟨x, h1, h2⟩) | h)
        · exact Or.inl h
        · exact Or.inr ⟨x, by omega, h2⟩
        · exact Or.inr ⟨j, by omega, rfl, h⟩
      · rintro (h | ⟨x, h1, h2, h3⟩)
        · exact Or.inl (Or.inl h)
        · rcases Nat.lt_succ_iff_lt_or_eq.mp h1 with q | q
          · exact Or.inl (Or.inr ⟨x, q, h2, h3⟩)
          · subst q; exact Or.inr h3
    · rw [mw_e h, ih]
      constructor
      · rintro (h | ⟨x, h1, h2⟩)
        · exact Or.inl h
        · exact Or.inr ⟨x, by omega, h2⟩
      · rintro (h2 | ⟨x, h1, h2, h3⟩)
        · exact Or.inl h2
        · rcases Nat.lt_succ_iff_lt_or_eq.mp h1 with q | q
          · exact Or.inr ⟨x, q, h2, h3⟩
          · subst q; exact absurd h2.symm h
theorem spn_fit {C P : mS} {m : Nat} {l : Int} {k : Nat} (h : fitB C P m = true) : spn (fitP C P m) l k ↔ ∃ x : Nat, (x : Int) < P 8 0 ∧ P 3 (x : Int) = l ∧ tb (spW (P 6 (x : Int)) (C 4 (m : Int))) k = true := by
  unfold fitP spn
  rw [if_pos h, mw_k (show (8 : Nat) ≠ 7 by decide), mw_s]
  exact Iff.rfl
theorem TKN_next {C : mS} {Q : Nat → mS} {m : Nat} (h : TKN C Q m) (hf : fitB C (Q m) m = true) (h8 : 0 ≤ Q m 8 0) : TKN (fitC C (Q m) m) (updQ Q m (fitP C (Q m) m)) (m + 1) := fun l l0 l1 k hk => by
  unfold fitC
  rw [if_pos hf, fit1_at]
  have e0 : rowC (fit0 C m) m (6 + (m + 1)) l = C (6 + m) l := by
    unfold rowC
    rw [if_pos ⟨rfl, l0, l1⟩]
    unfold fit0
    rw [mw_ne (6 + m) (by omega), mw_ne (6 + m) (by omega)]
  rw [e0, h l l0 l1 k hk]
  constructor
  · rintro (⟨j, h1, h2⟩ | ⟨x, h1, h2⟩)
    · exact ⟨j, by omega, by unfold updQ; rw [if_neg (by omega)]; exact h2⟩
    · exact ⟨m, by omega, by unfold updQ; rw [if_pos rfl, spn_fit hf]; exact ⟨x, by omega, h2⟩⟩
  · rintro ⟨j, h1, h2⟩
    rcases Nat.lt_succ_iff_lt_or_eq.mp h1 with q | q
    · unfold updQ at h2
      rw [if_neg (by omega)] at h2
      exact Or.inl ⟨j, q, h2⟩
    · subst q
      unfold updQ at h2
      rw [if_pos rfl, spn_fit hf] at h2
      obtain ⟨x, h3, h4⟩ := h2
      exact Or.inr ⟨x, by omega, h4⟩
theorem TKN_low {C C' : mS} {Q Q' : Nat → mS} {m : Nat} (h : TKN C Q m) (hC : C' (6 + m) = C (6 + m)) (hQ : ∀ j, j < m → Q' j = Q j) : TKN C' Q' m := fun l l0 l1 k hk => by
  rw [hC, h l l0 l1 k hk]
  exact ⟨fun ⟨j, h1, h2⟩ => ⟨j, h1, by rw [hQ j h1]; exact h2⟩, fun ⟨j, h1, h2⟩ => ⟨j, h1, by rw [← hQ j h1]; exact h2⟩⟩
/-- no two spans meet -/
def NMt (Q : Nat → mS) (t : Nat) : Prop := ∀ j i : Nat, j < i → i < t → ∀ l : Int, 0 ≤ l → l < 6 → ∀ k : Nat, k < 32 → ¬ (spn (Q j) l k ∧ spn (Q i) l k)
theorem NMt_next {C : mS} {Q : Nat → mS} {m : Nat} (hn : NMt Q m) (h : TKN C Q m) (hf : fitB C (Q m) m = true) : NMt (updQ Q m (fitP C (Q m) m)) (m + 1) := fun j i hji him l l0 l1 k hk => by
  rcases Nat.lt_succ_iff_lt_or_eq.mp him with q | q
  · unfold updQ
    rw [if_neg (by omega), if_neg (by omega)]
    exact hn j i hji q l l0 l1 k hk
  · subst q
    unfold updQ
    rw [if_neg (by omega), if_pos rfl, spn_fit hf]
    rintro ⟨h1, x, h2, h3, h4⟩
    have h5 := (h l l0 l1 k hk).mpr ⟨j, hji, h1⟩
    have hi : itk C (Q i) i (C 4 (i : Int)) = false := by
      unfold fitB at hf
      cases hb : itk C (Q i) i (C 4 (i : Int)) with
      | false => rfl
      | true => rw [hb, Bool.or_true] at hf; cases hf
    have h6 : itk C (Q i) i (C 4 (i : Int)) = true := anyN_iff.mpr ⟨x, by omega, by
      rw [decide_eq_true_eq]
      intro hz
      have := tb_zero.mp hz k hk
      rw [tb_and, h3, h5, h4] at this
      cases this⟩
    rw [hi] at h6
    cases h6
theorem STQ_k {S T : mS} {i : Nat} {P : mS} (h1 : T 1 = S 1) (h3 : ∀ k, 3 ≤ k → k ≤ 6 → T k = S k) (h : STQ S i P) : STQ T i P := by
  have hb : ∀ j, begF T (i : Int) j = begF S (i : Int) j := fun j => by
    induction j with
    | zero => rfl
    | succ j ih =>
      show begF T (i : Int) j + T 4 (i : Int) + T 1 (T 6 (3 * (i : Int) + (j : Int))) + 2 = begF S (i : Int) j + S 4 (i : Int) + S 1 (S 6 (3 * (i : Int) + (j : Int))) + 2
      rw [ih, h1, h3 4 (by decide) (by decide), h3 6 (by decide) (by decide)]
  have hl : lastF T (i : Int) = lastF S (i : Int) := by unfold lastF; rw [h3 6 (by decide) (by decide)]
  obtain ⟨q0, q1, q2, q8, qj⟩ := h
  refine ⟨by rw [h3 3 (by decide) (by decide)]; exact q0, by rw [h3 4 (by decide) (by decide)]; exact q1, by rw [h3 5 (by decide) (by decide)]; exact q2, by rw [hl]; exact q8, fun j hj => ?_⟩
  rw [hl] at hj
  rw [hb, h1, h3 3 (by decide) (by decide), h3 4 (by decide) (by decide), h3 6 (by decide) (by decide)]
  exact qj j hj
theorem STQ_fit {S C P : mS} {i m : Nat} (h : STQ S i P) : STQ S i (fitP C P m) := by
  unfold STQ
  rw [fitP_0 (show (0 : Nat) ≠ 7 by decide), fitP_0 (show (1 : Nat) ≠ 7 by decide), fitP_0 (show (2 : Nat) ≠ 7 by decide), fitP_0 (show (8 : Nat) ≠ 7 by decide), fitP_0 (show (3 : Nat) ≠ 7 by decide), fitP_0 (show (4 : Nat) ≠ 7 by decide), fitP_0 (show (5 : Nat) ≠ 7 by decide), fitP_0 (show (6 : Nat) ≠ 7 by decide)]
  exact h
theorem latP_fit {C P : mS} {m : Nat} : latP (fitP C P m) = latP P := by
  show fitP C P m 5 (fitP C P m 8 0 - 1) = P 5 (P 8 0 - 1)
  rw [fitP_0 (show (8 : Nat) ≠ 7 by decide), fitP_0 (show (5 : Nat) ≠ 7 by decide)]
/-- a stream that has its start -/
def stOk (S T : mS) (Q : Nat → mS) (j : Nat) : Prop := Q j 7 0 = T 14 (j : Int) ∧ (0 ≤ T 14 (j : Int) ∧ T 14 (j : Int) < S 3 (j : Int)) ∧ latP (Q j) ≤ Q j 2 0
def LRS (S C0 T C : mS) (Q : Nat → mS) (n : Nat) (t : Int) : Prop :=
  (∀ k, k ≠ 3 → k ≠ 4 → (k < 6 ∨ 12 ≤ k) → C k = C0 k) ∧ C 3 0 = T 13 0 ∧ (∀ j : Nat, j < n → (j : Int) ≤ t → C 4 (j : Int) = T 14 (j : Int) + 1) ∧ (∀ j : Nat, j < n → t < (j : Int) → T 14 (j : Int) = -1) ∧ (∀ j : Nat, j < n → (j : Int) < t → stOk S T Q j) ∧ (∀ j, j < n → STQ S j (Q j)) ∧ (∀ m : Nat, (m : Int) ≤ t → TKN C Q m) ∧ NMt Q t.toNat
/-- how a search ends -/
def SRE (S C0 T C : mS) (Q : Nat → mS) (n : Nat) (most v : Int) : Prop := BW S T most ∧ SW C ∧ (∀ k, k ≠ 3 → k ≠ 4 → (k < 6 ∨ 12 ≤ k) → C k = C0 k) ∧ C 3 0 = T 13 0 ∧ (v = 1 → (∀ j : Nat, j < n → stOk S T Q j ∧ STQ S j (Q j)) ∧ NMt Q n)
theorem srch {S C0 : mS} {n : Nat} {most : Int} (hn : S 2 0 = (n : Int)) (hn5 : n ≤ 5) (hs : ∀ i, 0 ≤ i → i < S 2 0 → mSt S i) (hd : mDl S) (hmo : 0 ≤ most ∧ most ≤ 20000) :
    ∀ (n1 n2 : Nat) (T C : mS) (Q : Nat → mS) (t : Int), 2 * (most - T 13 0) + t + 2 ≤ (n1 : Int) → 2 * (most - T 13 0) + t + 2 ≤ (n2 : Int) → (-1 ≤ t ∧ t ≤ (n : Int)) → BW S T most → SW C → LRS S C0 T C Q n t →
      (bl most n1 T t).2 = (srun n most n2 C Q t).2.2 ∧ SRE S C0 (bl most n1 T t).1 (srun n most n2 C Q t).1 (srun n most n2 C Q t).2.1 n most (srun n most n2 C Q t).2.2
  | 0, n2, T, C, Q, t, h1, _, ht, hB, _, _ => by have := hB.2.1; omega
  | n1 + 1, 0, T, C, Q, t, _, h2, ht, hB, _, _ => by have := hB.2.1; omega
  | n1 + 1, n2 + 1, T, C, Q, t, h1, h2, ht, hB, hW, hL => by
    obtain ⟨l1, l2, l3, l4, l5, l6, l7, l8⟩ := hL
    have hB0 := hB
    obtain ⟨b1, b2, b3⟩ := hB
    have e2 : T 2 0 = (n : Int) := by rw [b1 2 (by decide) (by decide) (by decide)]; exact hn
    rw [bl, srun, e2]
    by_cases hout : ¬ (0 ≤ t ∧ t < (n : Int))
    · rw [if_pos hout, if_pos hout]
      refine ⟨rfl, hB0, hW, l1, l2, fun hv => ?_⟩
      have hv2 : (if t < 0 then (0 : Int) else 1) = 1 := hv
      have htn : t = (n : Int) := by split at hv2 <;> omega
      subst htn
      rw [Int.toNat_natCast] at l8
      exact ⟨fun j hj => ⟨l5 j hj (by omega), l6 j hj⟩, l8⟩
    · rw [if_neg hout, if_neg hout]
      obtain ⟨m, rfl⟩ : ∃ m : Nat, t = (m : Int) := ⟨t.toNat, by omega⟩
      rw [Int.toNat_natCast]
      have hmn : m < n := by omega
      have c4 := l3 m hmn (Int.le_refl _)
      have b3m := b3 (m : Int) (by omega) (by omega)
      have b3s := b3m.2.2 (by omega)
      have hsm := hs (m : Int) (by omega) (by omega)
      have e3 : T 3 (m : Int) = S 3 (m : Int) := by rw [b1 3 (by decide) (by decide) (by decide)]
      have q0 : Q m 0 0 = S 3 (m : Int) := (l6 m hmn).1
      have q8 : 0 ≤ Q m 8 0 := by have := (l6 m hmn).2.2.2.1; omega
      by_cases hback : T 14 (m : Int) + 1 = T 3 (m : Int)
      · rw [if_pos hback, if_pos (show Q m 0 0 ≤ C 4 (m : Int) by omega)]
        refine srch hn hn5 hs hd hmo n1 n2 _ _ _ _ ?_ ?_ (by omega) (BW_back hB0 (by omega) (by rw [mw_s, mw_k (by decide)]; exact hback)) hW ⟨l1, ?_, fun j hj hjt => ?_, fun j hj hjt => ?_, fun j hj hjt => ?_, l6, fun m' hm' => l7 m' (by omega), ?_⟩
        · rw [mw_k (by decide), mw_k (by decide)]; omega
        · rw [mw_k (by decide), mw_k (by decide)]; omega
        · rw [mw_k (by decide), mw_k (by decide)]; exact l2
        · rw [mw_e (by omega), mw_e (by omega)]; exact l3 j hj (by omega)
        · by_cases hjm : j = m
          · subst hjm; rw [mw_s]
          · rw [mw_e (by omega), mw_e (by omega)]; exact l4 j hj (by omega)
        · unfold stOk
          rw [mw_e (by omega), mw_e (by omega)]
          exact l5 j hj (by omega)
        · exact fun j i hji hi => l8 j i hji (by omega)
      · rw [if_neg hback, if_neg (show ¬ Q m 0 0 ≤ C 4 (m : Int) by omega)]
        by_cases hend : T 13 0 = most
        · rw [if_pos hend, if_pos (show most ≤ C 3 0 by omega)]
          show (-1 : Int) = -1 ∧ SRE S C0 (mw T 14 (m : Int) (T 14 (m : Int) + 1)) C Q n most (-1)
          refine ⟨rfl, ⟨fun k k1 k2 k3 => by rw [← b1 k k1 k2 k3]; exact funext fun e => mw_k k3, by rw [mw_k (by decide)]; exact b2, fun j j0 j1 => ?_⟩, hW, l1, by rw [mw_k (by decide)]; exact l2, fun hv => absurd hv (by decide)⟩
          by_cases hjm : j = (m : Int)
          · subst hjm
            rw [mw_s]
            refine ⟨by omega, ?_, fun _ => by omega⟩
            have := hsm.1
            omega
          · rw [mw_e hjm]; exact b3 j j0 j1
        · rw [if_neg hend, if_neg (show ¬ most ≤ C 3 0 by omega)]
          have hBn := BW_next hB0 (i := m) (by omega) (by rw [mw_k (by decide)]; exact hback) (by rw [mw_k (by decide)]; exact hend) (by have := hsm.1; omega)
          have hst : ∀ j : Nat, j ≤ m → mSt (mw (mw T 14 (m : Int) (T 14 (m : Int) + 1)) 13 0 (T 13 0 + 1)) (j : Int) ∧ STQ (mw (mw T 14 (m : Int) (T 14 (m : Int) + 1)) 13 0 (T 13 0 + 1)) j (Q j) := fun j hj => by
            have hk : ∀ k, k ≠ 0 → k ≠ 13 → k ≠ 14 → mw (mw T 14 (m : Int) (T 14 (m : Int) + 1)) 13 0 (T 13 0 + 1) k = S k := hBn.1
            exact ⟨mSt_k (fun k k1 k2 => hk k (by omega) (by omega) (by omega)) (hs (j : Int) (by omega) (by omega)), STQ_k (hk 1 (by decide) (by decide) (by decide)) (fun k k1 k2 => hk k (by omega) (by omega) (by omega)) (l6 j (by omega))⟩
          have ht14 : ∀ j : Nat, j < m → (mw (mw T 14 (m : Int) (T 14 (m : Int) + 1)) 13 0 (T 13 0 + 1)) 14 (j : Int) = T 14 (j : Int) := fun j hj => by rw [mw_k (by decide), mw_e (by omega)]
          have ht14m : (mw (mw T 14 (m : Int) (T 14 (m : Int) + 1)) 13 0 (T 13 0 + 1)) 14 (m : Int) = T 14 (m : Int) + 1 := by rw [mw_k (by decide), mw_s]
          have htry := try_iff (C := C) (Q := Q) hst (BW_dl hd hBn) (l7 m (Int.le_refl _)) (fun j hj => by
            rw [ht14 j hj]
            obtain ⟨s1, s2, -⟩ := l5 j (by omega) (by omega)
            have := (hs (j : Int) (by omega) (by omega)).1
            exact ⟨s1, s2.1, by omega⟩) (by rw [ht14m]; have := hsm.1; exact ⟨c4, by omega, by omega⟩)
          have hW9 : SW (fitC C (Q m) m) := SW_fit hW (by omega) (by have := hsm.1; omega)
          have f3 : fitC C (Q m) m 3 0 = C 3 0 + 1 := by rw [fitC_k (by omega)]; unfold fit0; rw [mw_s]
          have f4 : ∀ e, fitC C (Q m) m 4 e = if e = (m : Int) then C 4 (m : Int) + 1 else C 4 e := fun e => by
            rw [fitC_k (by omega)]
            unfold fit0
            rw [mw_k (by decide)]
            by_cases q : e = (m : Int)
            · rw [if_pos q, q, mw_s]
            · rw [if_neg q, mw_e q]
          have fk : ∀ k, k ≠ 3 → k ≠ 4 → k ≠ 6 + (m + 1) → fitC C (Q m) m k = C k := fun k k1 k2 k3 => by
            rw [fitC_k k3]
            unfold fit0
            rw [mw_ne k k1, mw_ne k k2]
          have hq6 : ∀ j, j < n → STQ S j (updQ Q m (fitP C (Q m) m) j) := fun j hj => by
            unfold updQ
            by_cases q : j = m
            · subst q; rw [if_pos rfl]; exact STQ_fit (l6 j hj)
            · rw [if_neg q]; exact l6 j hj
          have h13 : (mw (mw T 14 (m : Int) (T 14 (m : Int) + 1)) 13 0 (T 13 0 + 1)) 13 0 = T 13 0 + 1 := mw_s
          cases hf : fitB C (Q m) m with
          | true =>
            rw [hf] at htry
            rw [if_pos htry.symm, if_pos rfl]
            refine srch hn hn5 hs hd hmo n1 n2 _ _ _ _ (by rw [h13]; omega) (by rw [h13]; omega) (by omega) hBn (SW_nx hW9) ⟨fun k k1 k2 k3 => ?_, ?_, fun j hj hjt => ?_, fun j hj hjt => ?_, fun j hj hjt => ?_, hq6, fun m' hm' => ?_, ?_⟩
            · rw [mw_ne k k2, fk k k1 k2 (by omega)]; exact l1 k k1 k2 k3
            · rw [mw_k (by decide), f3, h13]; omega
            · by_cases q : (j : Int) = (m : Int) + 1
              · rw [q, mw_s, ← q, mw_k (by decide), mw_e (by omega), l4 j hj (by omega)]; rfl
              · rw [mw_e q, f4]
                by_cases q2 : (j : Int) = (m : Int)
                · rw [if_pos q2, q2, ht14m, c4]
                · rw [if_neg q2, ht14 j (by omega)]; exact l3 j hj (by omega)
            · rw [mw_k (by decide), mw_e (by omega)]; exact l4 j hj (by omega)
            · unfold stOk updQ
              by_cases q : j = m
              · subst q
                rw [if_pos rfl, ht14m, latP_fit, fitP_0 (show (2 : Nat) ≠ 7 by decide)]
                have e7 : fitP C (Q j) j 7 0 = C 4 (j : Int) := by unfold fitP; rw [if_pos hf, mw_s]
                refine ⟨by rw [e7, c4], by omega, ?_⟩
                have hlt : decide (Q j 2 0 < latP (Q j)) = false := by
                  unfold fitB at hf
                  cases hb : decide (Q j 2 0 < latP (Q j)) with
                  | false => rfl
                  | true => rw [hb, Bool.true_or] at hf; cases hf
                have := of_decide_eq_false hlt
                omega
              · rw [if_neg q, ht14 j (by omega)]
                exact l5 j hj (by omega)
            · by_cases q : m' = m + 1
              · subst q
                exact TKN_low (TKN_next (l7 m (Int.le_refl _)) hf q8) (mw_ne _ (by omega)) (fun _ _ => rfl)
              · exact TKN_low (l7 m' (by omega)) ((mw_ne _ (by omega)).trans (fk _ (by omega) (by omega) (by omega))) (fun j hj => by unfold updQ; rw [if_neg (by omega)])
            · rw [show ((m : Int) + 1).toNat = m + 1 by omega]
              rw [Int.toNat_natCast] at l8
              exact NMt_next l8 (l7 m (Int.le_refl _)) hf
          | false =>
            rw [hf] at htry
            rw [if_neg (by rw [← htry]; decide), if_neg (by decide)]
            have hfp : fitP C (Q m) m = Q m := by unfold fitP; rw [if_neg (by rw [hf]; decide)]
            have huq : updQ Q m (fitP C (Q m) m) = Q := funext fun j => by
              unfold updQ
              by_cases q : j = m
              · subst q; rw [if_pos rfl, hfp]
              · rw [if_neg q]
            rw [huq] at hq6 ⊢
            refine srch hn hn5 hs hd hmo n1 n2 _ _ _ _ (by rw [h13]; omega) (by rw [h13]; omega) (by omega) hBn hW9 ⟨fun k k1 k2 k3 => ?_, ?_, fun j hj hjt => ?_, fun j hj hjt => ?_, fun j hj hjt => ?_, hq6, fun m' hm' => ?_, l8⟩
            · rw [fk k k1 k2 (by omega)]; exact l1 k k1 k2 k3
            · rw [f3, h13]; omega
            · rw [f4]
              by_cases q2 : (j : Int) = (m : Int)
              · rw [if_pos q2, q2, ht14m, c4]
              · rw [if_neg q2, ht14 j (by omega)]; exact l3 j hj (by omega)
            · rw [mw_k (by decide), mw_e (by omega)]; exact l4 j hj (by omega)
            · unfold stOk
              rw [ht14 j (by omega)]
              exact l5 j hj (by omega)
            · exact TKN_low (l7 m' hm') (fk _ (by omega) (by omega) (by omega)) (fun _ _ => rfl)
