/-! the search of the reference: what stays true -/
theorem bl0_at (S : mS) (j : Int) : ∀ n : Nat, itN n (fun T k => mw T 14 (k : Int) (-1)) S 14 j = if 0 ≤ j ∧ j < (n : Int) then -1 else S 14 j
  | 0 => by rw [if_neg (by omega)]; rfl
  | n + 1 => by
    show mw (itN n (fun T k => mw T 14 (k : Int) (-1)) S) 14 (n : Int) (-1) 14 j = _
    by_cases h : j = (n : Int)
    · subst h
      rw [mw_s, if_pos (by omega)]
    · rw [mw_e h, bl0_at S j n]
      by_cases q : 0 ≤ j ∧ j < (n : Int)
      · rw [if_pos q, if_pos (by omega)]
      · rw [if_neg q, if_neg (by omega)]
theorem bl0_k (S : mS) {k : Nat} (hk : k ≠ 14) : ∀ n : Nat, itN n (fun T k => mw T 14 (k : Int) (-1)) S k = S k
  | 0 => rfl
  | n + 1 => by
    show mw (itN n (fun T k => mw T 14 (k : Int) (-1)) S) 14 (n : Int) (-1) k = _
    rw [← bl0_k S hk n]
    funext e
    rw [mw_k hk]
theorem bl0_ok {S : mS} {most : Int} (hs : ∀ i, 0 ≤ i → i < S 2 0 → mSt S i) (hm : 0 ≤ most) : BW S (bl0 S) most := by
  refine ⟨fun k h1 h2 h3 => ?_, ?_, fun j h1 h2 => ?_⟩
  · unfold bl0
    rw [bl0_k _ h3]
    funext e
    rw [mw_k h2, mw_k h1]
  · unfold bl0
    rw [bl0_k _ (by decide), mw_s]
    omega
  · unfold bl0
    rw [bl0_at, if_pos (by omega)]
    refine ⟨by omega, by omega, fun h => ?_⟩
    have := (hs j h1 h).1
    omega
theorem BW_back {S T : mS} {most i : Int} (h : BW S T most) (hi : 0 ≤ i ∧ i < S 2 0) (_hc : mw T 14 i (T 14 i + 1) 14 i = mw T 14 i (T 14 i + 1) 3 i) : BW S (mw (mw T 14 i (T 14 i + 1)) 14 i (-1)) most := by
  obtain ⟨h1, h2, h3⟩ := h
  refine ⟨fun k q1 q2 q3 => ?_, by rw [mw_k (by decide), mw_k (by decide)]; exact h2, fun j q1 q2 => ?_⟩
  · rw [← h1 k q1 q2 q3]
    funext e
    rw [mw_k q3, mw_k q3]
  · by_cases hj : j = i
    · subst hj
      rw [mw_s]
      have := h3 j q1 q2
      refine ⟨by omega, by omega, fun h => ?_⟩
      have := this.2.2 h
      omega
    · rw [mw_e hj, mw_e hj]
      exact h3 j q1 q2
theorem BW_next {S T : mS} {most : Int} {i : Nat} (h : BW S T most) (hi : 0 ≤ (i : Int) ∧ (i : Int) < S 2 0) (hc : ¬ T 14 (i : Int) + 1 = mw T 14 (i : Int) (T 14 (i : Int) + 1) 3 (i : Int)) (hm : ¬ (mw T 14 (i : Int) (T 14 (i : Int) + 1)) 13 0 = most) (hp : S 3 (i : Int) ≤ 32) : BW S (mw (mw T 14 (i : Int) (T 14 (i : Int) + 1)) 13 0 (T 13 0 + 1)) most := by
  obtain ⟨h1, h2, h3⟩ := h
  rw [mw_k (by decide)] at hc hm
  have e3 := congrFun (h1 3 (by decide) (by decide) (by decide)) (i : Int)
  refine ⟨fun k q1 q2 q3 => ?_, by rw [mw_s]; omega, fun j q1 q2 => ?_⟩
  · rw [← h1 k q1 q2 q3]
    funext e
    rw [mw_k q2, mw_k q3]
  · rw [mw_k (by decide)]
    by_cases hj : j = (i : Int)
    · subst hj
      rw [mw_s]
      have h4 := h3 (i : Int) q1 q2
      have h5 := h4.2.2 hi.2
      refine ⟨by omega, ?_, fun _ => by omega⟩
      have h6 := h4.2.2 hi.2
      rw [e3] at hc
      omega
    · rw [mw_e hj]
      exact h3 j q1 q2
theorem mSt_k {S T : mS} {i : Int} (h : ∀ k, 3 ≤ k → k ≤ 6 → S k = T k) (hs : mSt T i) : mSt S i := by
  unfold mSt at hs ⊢
  rw [h 3 (by omega) (by omega), h 4 (by omega) (by omega), h 5 (by omega) (by omega), h 6 (by omega) (by omega)]
  exact hs
theorem BW_st {S T : mS} {most : Int} (hs : ∀ i, 0 ≤ i → i < S 2 0 → mSt S i) (h : BW S T most) : ∀ i, 0 ≤ i → i < T 2 0 → mSt T i := fun i h1 h2 => by
  rw [h.1 2 (by decide) (by decide) (by decide)] at h2
  exact mSt_k (fun k q1 q2 => h.1 k (by omega) (by omega) (by omega)) (hs i h1 h2)
theorem BW_dl {S T : mS} {most : Int} (hs : mDl S) (h : BW S T most) : mDl T := by
  unfold mDl at hs ⊢
  rw [h.1 1 (by decide) (by decide) (by decide)]
  exact hs
theorem BW_good {S T : mS} {most : Int} {i : Nat} (hs : ∀ i, 0 ≤ i → i < S 2 0 → mSt S i) (h : BW S T most) (hi : 0 ≤ (i : Int) ∧ (i : Int) < S 2 0) (hn : S 2 0 ≤ 5) : ∀ j : Nat, j ≤ i → mSt T (j : Int) ∧ -1 ≤ T 14 (j : Int) ∧ T 14 (j : Int) ≤ 32 := fun j hj => by
  refine ⟨mSt_k (fun k q1 q2 => h.1 k (by omega) (by omega) (by omega)) (hs (j : Int) (by omega) (by omega)), ?_⟩
  have := h.2.2 (j : Int) (by omega) (by omega)
  omega
