/-! schedules kept, copied, come into force: place by place -/
theorem mw_at {S : mS} {k a : Nat} {e b v : Int} : mw S k e v a b = if a = k ∧ b = e then v else S a b := rfl
theorem cp5_at {a b : Int} (h : 0 ≤ a ∧ a ≤ 2 ∧ 0 ≤ b ∧ b ≤ 2 ∧ a ≠ b) (T : mS) : ∀ n : Nat, n ≤ 5 → (∀ k, k ≠ 8 → k ≠ 9 → k ≠ 10 → itN n (cp5 a b) T k = T k) ∧ ∀ k, (k = 8 ∨ k = 9 ∨ k = 10) → ∀ e, itN n (cp5 a b) T k e = if 5 * b ≤ e ∧ e < 5 * b + (n : Int) then T k (5 * a + (e - 5 * b)) else T k e
  | 0, _ => ⟨fun _ _ _ _ => rfl, fun k _ e => by rw [if_neg (by omega)]; rfl⟩
  | n + 1, hn => by
    obtain ⟨h1, h2⟩ := cp5_at h T n (by omega)
    refine ⟨fun k k1 k2 k3 => ?_, fun k hk e => ?_⟩
    · show cp5 a b (itN n (cp5 a b) T) n k = T k
      rw [← h1 k k1 k2 k3]
      unfold cp5
      rw [mw_ne k k3, mw_ne k k2, mw_ne k k1]
    · show cp5 a b (itN n (cp5 a b) T) n k e = _
      generalize itN n (cp5 a b) T = U at h1 h2 ⊢
      unfold cp5
      have s8 := h2 8 (Or.inl rfl) (5 * a + (n : Int))
      have s9 := h2 9 (Or.inr (Or.inl rfl)) (5 * a + (n : Int))
      have s10 := h2 10 (Or.inr (Or.inr rfl)) (5 * a + (n : Int))
      rw [if_neg (by omega)] at s8 s9 s10
      by_cases he : e = 5 * b + (n : Int)
      · subst he
        rw [if_pos (by omega), show 5 * a + (5 * b + (n : Int) - 5 * b) = 5 * a + (n : Int) by omega]
        rcases hk with rfl | rfl | rfl
        · rw [mw_k (by decide), mw_k (by decide), mw_s]; exact s8
        · rw [mw_k (by decide), mw_s, mw_k (by decide)]; exact s9
        · rw [mw_s, mw_k (by decide), mw_k (by decide)]; exact s10
      · rw [mw_e he, mw_e he, mw_e he, h2 k hk e]
        by_cases hq : 5 * b ≤ e ∧ e < 5 * b + (n : Int)
        · rw [if_pos hq, if_pos (by omega)]
        · rw [if_neg hq, if_neg (by omega)]
theorem cp15_at {a b : Int} (h : 0 ≤ a ∧ a ≤ 2 ∧ 0 ≤ b ∧ b ≤ 2 ∧ a ≠ b) (T : mS) : ∀ n : Nat, n ≤ 15 → (∀ k, k ≠ 11 → k ≠ 12 → itN n (cp15 a b) T k = T k) ∧ ∀ k, (k = 11 ∨ k = 12) → ∀ e, itN n (cp15 a b) T k e = if 15 * b ≤ e ∧ e < 15 * b + (n : Int) then T k (15 * a + (e - 15 * b)) else T k e
  | 0, _ => ⟨fun _ _ _ => rfl, fun k _ e => by rw [if_neg (by omega)]; rfl⟩
  | n + 1, hn => by
    obtain ⟨h1, h2⟩ := cp15_at h T n (by omega)
    refine ⟨fun k k1 k2 => ?_, fun k hk e => ?_⟩
    · show cp15 a b (itN n (cp15 a b) T) n k = T k
      rw [← h1 k k1 k2]
      unfold cp15
      rw [mw_ne k k2, mw_ne k k1]
    · show cp15 a b (itN n (cp15 a b) T) n k e = _
      generalize itN n (cp15 a b) T = U at h1 h2 ⊢
      unfold cp15
      have s11 := h2 11 (Or.inl rfl) (15 * a + (n : Int))
      have s12 := h2 12 (Or.inr rfl) (15 * a + (n : Int))
      rw [if_neg (by omega)] at s11 s12
      by_cases he : e = 15 * b + (n : Int)
      · subst he
        rw [if_pos (by omega), show 15 * a + (15 * b + (n : Int) - 15 * b) = 15 * a + (n : Int) by omega]
        rcases hk with rfl | rfl
        · rw [mw_k (by decide), mw_s]; exact s11
        · rw [mw_s, mw_k (by decide)]; exact s12
      · rw [mw_e he, mw_e he, h2 k hk e]
        by_cases hq : 15 * b ≤ e ∧ e < 15 * b + (n : Int)
        · rw [if_pos hq, if_pos (by omega)]
        · rw [if_neg hq, if_neg (by omega)]
theorem cop_k {S : mS} {a b : Int} (h : 0 ≤ a ∧ a ≤ 2 ∧ 0 ≤ b ∧ b ≤ 2 ∧ a ≠ b) {k : Nat} (hk : k < 7 ∨ 12 < k) : copF S a b k = S k := by
  unfold copF
  rw [(cp15_at h _ 15 (by decide)).1 k (by omega) (by omega), (cp5_at h _ 5 (by decide)).1 k (by omega) (by omega) (by omega), mw_ne k (by omega)]
theorem cop_7 {S : mS} {a b : Int} (h : 0 ≤ a ∧ a ≤ 2 ∧ 0 ≤ b ∧ b ≤ 2 ∧ a ≠ b) (c : Int) : copF S a b 7 c = if c = b then S 7 a else S 7 c := by
  unfold copF
  rw [(cp15_at h _ 15 (by decide)).1 7 (by omega) (by omega), (cp5_at h _ 5 (by decide)).1 7 (by omega) (by omega) (by omega)]
  by_cases q : c = b
  · subst q; rw [mw_s, if_pos rfl]
  · rw [mw_e q, if_neg q]
theorem cop_5 {S : mS} {a b : Int} (h : 0 ≤ a ∧ a ≤ 2 ∧ 0 ≤ b ∧ b ≤ 2 ∧ a ≠ b) {k : Nat} (hk : k = 8 ∨ k = 9 ∨ k = 10) (e : Int) : copF S a b k e = if 5 * b ≤ e ∧ e < 5 * b + 5 then S k (5 * a + (e - 5 * b)) else S k e := by
  unfold copF
  rw [(cp15_at h _ 15 (by decide)).1 k (by omega) (by omega), (cp5_at h _ 5 (by decide)).2 k hk e, mw_ne k (by omega)]
  rfl
theorem cop_15 {S : mS} {a b : Int} (h : 0 ≤ a ∧ a ≤ 2 ∧ 0 ≤ b ∧ b ≤ 2 ∧ a ≠ b) {k : Nat} (hk : k = 11 ∨ k = 12) (e : Int) : copF S a b k e = if 15 * b ≤ e ∧ e < 15 * b + 15 then S k (15 * a + (e - 15 * b)) else S k e := by
  unfold copF
  rw [(cp15_at h _ 15 (by decide)).2 k hk e, (cp5_at h _ 5 (by decide)).1 k (by omega) (by omega) (by omega), mw_ne k (by omega)]
  rfl
theorem SCH_cop {S : mS} {a b n : Int} {Q : Nat → mS} (h : 0 ≤ a ∧ a ≤ 2 ∧ 0 ≤ b ∧ b ≤ 2 ∧ a ≠ b) (hs : SCH S a n Q) : SCH (copF S a b) b n Q := by
  obtain ⟨h1, h2, h3, h4⟩ := hs
  refine ⟨h1, by rw [cop_7 h, if_pos rfl]; exact h2, fun i hi => PSR_k ?_ ?_ ?_ (fun j hj => ?_) (fun j hj => ?_) (h3 i hi), h4⟩
  · rw [cop_5 h (Or.inl rfl), if_pos (by omega)]; congr 1; omega
  · rw [cop_5 h (Or.inr (Or.inl rfl)), if_pos (by omega)]; congr 1; omega
  · rw [cop_5 h (Or.inr (Or.inr rfl)), if_pos (by omega)]; congr 1; omega
  · rw [cop_15 h (Or.inl rfl), if_pos (by omega)]; congr 1; omega
  · rw [cop_15 h (Or.inr rfl), if_pos (by omega)]; congr 1; omega
theorem SCH_cop0 {S : mS} {a b c n : Int} {Q : Nat → mS} (h : 0 ≤ a ∧ a ≤ 2 ∧ 0 ≤ b ∧ b ≤ 2 ∧ a ≠ b) (hc : 0 ≤ c ∧ c ≤ 2 ∧ c ≠ b) (hs : SCH S c n Q) : SCH (copF S a b) c n Q := by
  obtain ⟨h1, h2, h3, h4⟩ := hs
  refine ⟨h1, by rw [cop_7 h, if_neg hc.2.2]; exact h2, fun i hi => PSR_k ?_ ?_ ?_ (fun j hj => ?_) (fun j hj => ?_) (h3 i hi), h4⟩
  · rw [cop_5 h (Or.inl rfl), if_neg (by omega)]
  · rw [cop_5 h (Or.inr (Or.inl rfl)), if_neg (by omega)]
  · rw [cop_5 h (Or.inr (Or.inr rfl)), if_neg (by omega)]
  · rw [cop_15 h (Or.inl rfl), if_neg (by omega)]
  · rw [cop_15 h (Or.inr rfl), if_neg (by omega)]
/-- none there -/
theorem SCH_none {S : mS} {k : Int} {Q : Nat → mS} (h : S 7 k = -1) : SCH S k (-1) Q := ⟨by decide, h, fun i hi => by omega, fun j i _ hi => absurd hi (by show ¬ i < (-1 : Int).toNat; omega)⟩
/-- comeIntoForce -/
theorem cif1_at (T : mS) : ∀ n : Nat, (∀ k, (k < 16 ∨ 22 < k) → itN n cif1 T k = T k) ∧ ∀ k, 16 ≤ k → k ≤ 22 → ∀ e, itN n cif1 T k e = if 0 ≤ e ∧ e < (n : Int) then (if k = 22 then -1 else 0) else T k e
  | 0 => ⟨fun _ _ => rfl, fun k _ _ e => by rw [if_neg (by omega)]; rfl⟩
  | n + 1 => by
    obtain ⟨h1, h2⟩ := cif1_at T n
    refine ⟨fun k hk => ?_, fun k k1 k2 e => ?_⟩
    · show cif1 (itN n cif1 T) n k = T k
      rw [← h1 k hk]
      unfold cif1
      rw [mw_ne k (by omega), mw_ne k (by omega), mw_ne k (by omega), mw_ne k (by omega), mw_ne k (by omega), mw_ne k (by omega), mw_ne k (by omega)]
    · show cif1 (itN n cif1 T) n k e = _
      have h2e := h2 k k1 k2 e
      generalize itN n cif1 T = U at h2e ⊢
      unfold cif1
      by_cases he : e = (n : Int)
      · subst he
        rw [if_pos (by omega)]
        rcases (show k = 16 ∨ k = 17 ∨ k = 18 ∨ k = 19 ∨ k = 20 ∨ k = 21 ∨ k = 22 by omega) with rfl | rfl | rfl | rfl | rfl | rfl | rfl <;> simp [mw]
      · rw [mw_e he, mw_e he, mw_e he, mw_e he, mw_e he, mw_e he, mw_e he, h2e]
        by_cases hq : 0 ≤ e ∧ e < (n : Int)
        · rw [if_pos hq, if_pos (show 0 ≤ e ∧ e < ((n + 1 : Nat) : Int) by omega)]
        · rw [if_neg hq, if_neg (show ¬ (0 ≤ e ∧ e < ((n + 1 : Nat) : Int)) by omega)]
/-- keep -/
theorem kp_at (T : mS) : ∀ n : Nat, (∀ k, (k < 8 ∨ 12 < k) → itN n (fun T i => itN 3 (kpJ i) (kpI T i)) T k = T k) ∧ (∀ e, 0 ≤ e → e < (n : Int) → itN n (fun T i => itN 3 (kpJ i) (kpI T i)) T 8 e = T 3 e ∧ itN n (fun T i => itN 3 (kpJ i) (kpI T i)) T 9 e = T 4 e ∧ itN n (fun T i => itN 3 (kpJ i) (kpI T i)) T 10 e = T 14 e) ∧ (∀ e, 0 ≤ e → e < 3 * (n : Int) → itN n (fun T i => itN 3 (kpJ i) (kpI T i)) T 11 e = T 6 e ∧ itN n (fun T i => itN 3 (kpJ i) (kpI T i)) T 12 e = if T 6 e < 0 then 0 else T 1 (T 6 e)) ∧ (∀ k, 8 ≤ k → k ≤ 10 → ∀ e, (n : Int) ≤ e → itN n (fun T i => itN 3 (kpJ i) (kpI T i)) T k e = T k e) ∧ ∀ k, 11 ≤ k → k ≤ 12 → ∀ e, 3 * (n : Int) ≤ e → itN n (fun T i => itN 3 (kpJ i) (kpI T i)) T k e = T k e
  | 0 => ⟨fun _ _ => rfl, fun e _ _ => by omega, fun e _ _ => by omega, fun _ _ _ _ _ => rfl, fun _ _ _ _ _ => rfl⟩
  | n + 1 => by
    obtain ⟨h1, h2, h3, h4, h5⟩ := kp_at T n
    have e1 : itN (n + 1) (fun T i => itN 3 (kpJ i) (kpI T i)) T = kpJ n (kpJ n (kpJ n (kpI (itN n (fun T i => itN 3 (kpJ i) (kpI T i)) T) n) 0) 1) 2 := rfl
    rw [e1]
    generalize itN n (fun T i => itN 3 (kpJ i) (kpI T i)) T = U at h1 h2 h3 h4 h5 ⊢
    have u3 : U 3 = T 3 := h1 3 (by omega)
    have u4 : U 4 = T 4 := h1 4 (by omega)
    have u14 : U 14 = T 14 := h1 14 (by omega)
    have u6 : U 6 = T 6 := h1 6 (by omega)
    have u1 : U 1 = T 1 := h1 1 (by omega)
    have k0 : ∀ k, k ≠ 8 → k ≠ 9 → k ≠ 10 → kpI U n k = U k := fun k a b c => by unfold kpI; rw [mw_ne k c, mw_ne k b, mw_ne k a]
    have kj : ∀ (V : mS) (j : Nat) k, k ≠ 11 → k ≠ 12 → kpJ n V j k = V k := fun V j k a b => by unfold kpJ; rw [mw_ne k b, mw_ne k a]
    have i8 : ∀ e, kpI U n 8 e = if e = (n : Int) then T 3 e else U 8 e := fun e => by
      unfold kpI
      rw [mw_k (by decide), mw_k (by decide)]
      by_cases q : e = (n : Int)
      · subst q; rw [mw_s, if_pos rfl, u3]
      · rw [mw_e q, if_neg q]
    have i9 : ∀ e, kpI U n 9 e = if e = (n : Int) then T 4 e else U 9 e := fun e => by
      unfold kpI
      rw [mw_k (by decide)]
      by_cases q : e = (n : Int)
      · subst q; rw [mw_s, if_pos rfl, mw_k (by decide), u4]
      · rw [mw_e q, mw_k (by decide), if_neg q]
    have i10 : ∀ e, kpI U n 10 e = if e = (n : Int) then T 14 e else U 10 e := fun e => by
      unfold kpI
      by_cases q : e = (n : Int)
      · subst q; rw [mw_s, if_pos rfl, mw_k (by decide), mw_k (by decide), u14]
      · rw [mw_e q, mw_k (by decide), mw_k (by decide), if_neg q]
    have j11 : ∀ (V : mS) (j : Nat), V 6 = T 6 → ∀ e, kpJ n V j 11 e = if e = 3 * (n : Int) + (j : Int) then T 6 e else V 11 e := fun V j hV e => by
      unfold kpJ
      rw [mw_k (by decide)]
      by_cases q : e = 3 * (n : Int) + (j : Int)
      · subst q; rw [mw_s, if_pos rfl, hV]
      · rw [mw_e q, if_neg q]
    have j12 : ∀ (V : mS) (j : Nat), V 6 = T 6 → V 1 = T 1 → ∀ e, kpJ n V j 12 e = if e = 3 * (n : Int) + (j : Int) then (if T 6 e < 0 then 0 else T 1 (T 6 e)) else V 12 e := fun V j hV hV1 e => by
      unfold kpJ
      by_cases q : e = 3 * (n : Int) + (j : Int)
      · subst q; rw [mw_s, if_pos rfl, hV, mw_k (by decide), hV1]
      · rw [mw_e q, mw_k (by decide), if_neg q]
    have a6 : kpI U n 6 = T 6 := (k0 6 (by decide) (by decide) (by decide)).trans u6
    have a1 : kpI U n 1 = T 1 := (k0 1 (by decide) (by decide) (by decide)).trans u1
    have b6 : kpJ n (kpI U n) 0 6 = T 6 := (kj _ 0 6 (by decide) (by decide)).trans a6
    have b1 : kpJ n (kpI U n) 0 1 = T 1 := (kj _ 0 1 (by decide) (by decide)).trans a1
    have c6 : kpJ n (kpJ n (kpI U n) 0) 1 6 = T 6 := (kj _ 1 6 (by decide) (by decide)).trans b6
    have c1 : kpJ n (kpJ n (kpI U n) 0) 1 1 = T 1 := (kj _ 1 1 (by decide) (by decide)).trans b1
    refine ⟨fun k hk => ?_, fun e e0 e1 => ?_, fun e e0 e1 => ?_, fun k k1 k2 e he => ?_, fun k k1 k2 e he => ?_⟩
    · rw [kj _ _ k (by omega) (by omega), kj _ _ k (by omega) (by omega), kj _ _ k (by omega) (by omega), k0 k (by omega) (by omega) (by omega)]
      exact h1 k hk
    · rw [kj _ _ 8 (by decide) (by decide), kj _ _ 8 (by decide) (by decide), kj _ _ 8 (by decide) (by decide), kj _ _ 9 (by decide) (by decide), kj _ _ 9 (by decide) (by decide), kj _ _ 9 (by decide) (by decide), kj _ _ 10 (by decide) (by decide), kj _ _ 10 (by decide) (by decide), kj _ _ 10 (by decide) (by decide), i8, i9, i10]
      by_cases q : e = (n : Int)
      · rw [if_pos q, if_pos q, if_pos q]; exact ⟨rfl, rfl, rfl⟩
      · rw [if_neg q, if_neg q, if_neg q]; exact h2 e e0 (by omega)
    · rw [j11 _ 2 c6, j11 _ 1 b6, j11 _ 0 a6, j12 _ 2 c6 c1, j12 _ 1 b6 b1, j12 _ 0 a6 a1, k0 11 (by decide) (by decide) (by decide), k0 12 (by decide) (by decide) (by decide)]
      by_cases q2 : e = 3 * (n : Int) + ((2 : Nat) : Int)
      · rw [if_pos q2, if_pos q2]; exact ⟨rfl, rfl⟩
      · rw [if_neg q2, if_neg q2]
        by_cases q1 : e = 3 * (n : Int) + ((1 : Nat) : Int)
        · rw [if_pos q1, if_pos q1]; exact ⟨rfl, rfl⟩
        · rw [if_neg q1, if_neg q1]
          by_cases q0 : e = 3 * (n : Int) + ((0 : Nat) : Int)
          · rw [if_pos q0, if_pos q0]; exact ⟨rfl, rfl⟩
          · rw [if_neg q0, if_neg q0]; exact h3 e e0 (by omega)
    · rw [kj _ _ k (by omega) (by omega), kj _ _ k (by omega) (by omega), kj _ _ k (by omega) (by omega)]
      rcases (show k = 8 ∨ k = 9 ∨ k = 10 by omega) with rfl | rfl | rfl
      · rw [i8, if_neg (by omega)]; exact h4 8 (by decide) (by decide) e (by omega)
      · rw [i9, if_neg (by omega)]; exact h4 9 (by decide) (by decide) e (by omega)
      · rw [i10, if_neg (by omega)]; exact h4 10 (by decide) (by decide) e (by omega)
    · rcases (show k = 11 ∨ k = 12 by omega) with rfl | rfl
      · rw [j11 _ 2 c6, j11 _ 1 b6, j11 _ 0 a6, if_neg (by omega), if_neg (by omega), if_neg (by omega), k0 11 (by decide) (by decide) (by decide)]; exact h5 11 (by decide) (by decide) e (by omega)
      · rw [j12 _ 2 c6 c1, j12 _ 1 b6 b1, j12 _ 0 a6 a1, if_neg (by omega), if_neg (by omega), if_neg (by omega), k0 12 (by decide) (by decide) (by decide)]; exact h5 12 (by decide) (by decide) e (by omega)
/-- the links of a path differ -/
def pDis (S : mS) (i : Int) : Prop := ∀ x y : Nat, x ≤ lastF S i → y ≤ lastF S i → S 6 (3 * i + (x : Int)) = S 6 (3 * i + (y : Int)) → x = y
theorem keep_PSR {S : mS} {n i : Nat} {P : mS} (hn : S 2 0 = (n : Int)) (hi : i < n) (hs : mSt S (i : Int)) (hd : mDl S) (hdis : pDis S (i : Int)) (hst : P 7 0 = S 14 (i : Int) ∧ (0 ≤ S 14 (i : Int) ∧ S 14 (i : Int) < S 3 (i : Int)) ∧ latP P ≤ P 2 0) (hq : STQ S i P) : PSR (keepF S) (i : Int) (3 * (i : Int)) P := by
  have hk := kp_at (mw S 7 0 (S 2 0)) n
  have e0 : keepF S = itN n (fun T i => itN 3 (kpJ i) (kpI T i)) (mw S 7 0 (S 2 0)) := by unfold keepF; rw [hn, Int.toNat_natCast]
  rw [e0]
  generalize itN n (fun T i => itN 3 (kpJ i) (kpI T i)) (mw S 7 0 (S 2 0)) = K at hk ⊢
  obtain ⟨-, k2, k3, -, -⟩ := hk
  have m3 : ∀ k, k ≠ 7 → mw S 7 0 (S 2 0) k = S k := fun k h => mw_ne k h
  rw [m3 3 (by decide), m3 4 (by decide), m3 14 (by decide)] at k2
  rw [m3 6 (by decide), m3 1 (by decide)] at k3
  obtain ⟨a8, a9, a10⟩ := k2 (i : Int) (by omega) (by omega)
  have a11 : ∀ j : Nat, j < 3 → K 11 (3 * (i : Int) + (j : Int)) = S 6 (3 * (i : Int) + (j : Int)) := fun j hj => (k3 _ (by omega) (by omega)).1
  have a12 : ∀ j : Nat, j < 3 → K 12 (3 * (i : Int) + (j : Int)) = if S 6 (3 * (i : Int) + (j : Int)) < 0 then 0 else S 1 (S 6 (3 * (i : Int) + (j : Int))) := fun j hj => (k3 _ (by omega) (by omega)).2
  have hs0 := id hs
  obtain ⟨s3, s4, s5, p0, p1, p2, p3⟩ := hs
  have b0 : K 11 (3 * (i : Int)) = S 6 (3 * (i : Int)) := by have := a11 0 (by decide); simpa using this
  have b1 : K 11 (3 * (i : Int) + 1) = S 6 (3 * (i : Int) + 1) := a11 1 (by decide)
  have b2 : K 11 (3 * (i : Int) + 2) = S 6 (3 * (i : Int) + 2) := a11 2 (by decide)
  have hl : laF K (3 * (i : Int)) = lastF S (i : Int) := by unfold laF lastF; rw [b1, b2]
  have hla := lastF_le S (i : Int)
  have hdl : ∀ j : Nat, j ≤ lastF S (i : Int) → K 12 (3 * (i : Int) + (j : Int)) = S 1 (S 6 (3 * (i : Int) + (j : Int))) := fun j hj => by
    rw [a12 j (by omega), if_neg (by have := mSt_path hs0 hj; omega)]
  have hb : ∀ j : Nat, j ≤ lastF S (i : Int) → binF K (i : Int) (3 * (i : Int)) j = begF S (i : Int) j := fun j => by
    induction j with
    | zero => intro _; rfl
    | succ j ih =>
      intro hj
      show binF K (i : Int) (3 * (i : Int)) j + K 9 (i : Int) + K 12 (3 * (i : Int) + (j : Int)) + 2 = begF S (i : Int) j + S 4 (i : Int) + S 1 (S 6 (3 * (i : Int) + (j : Int))) + 2
      rw [ih (by omega), a9, hdl j (by omega)]
  have h12r : ∀ j : Nat, j < 3 → 0 ≤ K 12 (3 * (i : Int) + (j : Int)) ∧ K 12 (3 * (i : Int) + (j : Int)) ≤ 9 := fun j hj => by
    rw [a12 j hj]
    split
    · omega
    · refine hd _ (by omega) ?_
      match j, hj with
      | 0, _ => have : S 6 (3 * (i : Int) + ((0 : Nat) : Int)) = S 6 (3 * (i : Int)) := by rw [show (3 * (i : Int) + ((0 : Nat) : Int)) = 3 * (i : Int) from Int.add_zero _]
                rw [this]; exact p0.2
      | 1, _ => exact p1.2
      | 2, _ => exact p2.2
  obtain ⟨q0, q1, q2, q8, qj⟩ := id hq
  refine ⟨⟨by rw [a8]; exact q0, by rw [a9]; exact q1, by rw [a10]; exact hst.1, by rw [hl]; exact q8⟩, fun j hj => ?_, ⟨by rw [q2]; exact s5, hst.2.2⟩, ⟨by rw [a8]; exact s3, by rw [a9]; exact s4, by rw [a10, a8]; exact hst.2.1, by rw [b0]; exact p0, by rw [b1]; exact p1, by rw [b2]; exact p2, by rw [b1, b2]; exact p3, by have := h12r 0 (by decide); simpa using this, h12r 1 (by decide), h12r 2 (by decide)⟩, fun x y hx hy e => ?_⟩
  · rw [hl] at hj
    obtain ⟨g3, g4, g5, g6⟩ := qj j hj
    rw [hb j hj, a8, a9, a11 j (by omega), hdl j hj]
    exact ⟨g3, g4, g5, g6⟩
  · rw [hl] at hx hy
    rw [a11 x (by omega), a11 y (by omega)] at e
    exact hdis x y hx hy e
