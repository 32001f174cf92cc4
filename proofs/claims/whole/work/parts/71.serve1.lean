/-! a tick of both sides: the links serve -/
theorem allN_congr {f g : Nat → Bool} : ∀ {n : Nat}, (∀ i, i < n → f i = g i) → allN n f = allN n g := fun {n} h => by
  refine Bool.eq_iff_iff.mpr ?_
  rw [allN_iff, allN_iff]
  exact ⟨fun q k hk => by rw [← h k hk]; exact q k hk, fun q k hk => by rw [h k hk]; exact q k hk⟩
theorem bf1_at (l : Nat) : ∀ (n : Nat) (S : mS) (j : Int), itN n (bf1 l) S (24 + l + 6) j = if 0 ≤ j ∧ j < (n : Int) then S (24 + l + 6) (j + 1) else S (24 + l + 6) j
  | 0, _, j => by rw [if_neg (by omega)]; rfl
  | n + 1, S, j => by
    have h := bf1_at l n S
    show bf1 l (itN n (bf1 l) S) n (24 + l + 6) j = _
    generalize itN n (bf1 l) S = U at h ⊢
    unfold bf1
    rw [show (1 + (n : Int) - 1) = (n : Int) by omega]
    by_cases q : j = (n : Int)
    · subst q
      rw [mw_s, h, if_neg (by omega), if_pos (by omega), Int.add_comm]
    · rw [mw_e q, h]
      by_cases q2 : 0 ≤ j ∧ j < (n : Int)
      · rw [if_pos q2, if_pos (by omega)]
      · rw [if_neg q2, if_neg (by omega)]
theorem sv1_at (l : Int) : ∀ (n : Nat) (S : mS) (e : Int), itN n (sv1 l) S 28 e = if 4 * l ≤ e ∧ e < 4 * l + (n : Int) then S 28 (e + 1) else S 28 e
  | 0, _, e => by rw [if_neg (by omega)]; rfl
  | n + 1, S, e => by
    have h := sv1_at l n S
    show sv1 l (itN n (sv1 l) S) n 28 e = _
    generalize itN n (sv1 l) S = U at h ⊢
    unfold sv1
    by_cases q : e = 4 * l + (n : Int)
    · subst q
      rw [mw_s, h, if_neg (by omega), if_pos (by omega)]
    · rw [mw_e q, h]
      by_cases q2 : 4 * l ≤ e ∧ e < 4 * l + (n : Int)
      · rw [if_pos q2, if_pos (by omega)]
      · rw [if_neg q2, if_neg (by omega)]
/-- two states, one link's places -/
def plq (l : Nat) (S T : mS) : Prop := T 26 (l : Int) = S 26 (l : Int) ∧ T 27 (l : Int) = S 27 (l : Int) ∧ T 29 (l : Int) = S 29 (l : Int) ∧ T 30 (l : Int) = S 30 (l : Int) ∧ ∀ x : Int, 0 ≤ x → x < 4 → T 28 (4 * (l : Int) + x) = S 28 (4 * (l : Int) + x)
theorem plq.rfl' {l : Nat} {S : mS} : plq l S S := ⟨rfl, rfl, rfl, rfl, fun _ _ _ => rfl⟩
theorem plq.tr {l : Nat} {S T U : mS} (h : plq l S T) (g : plq l T U) : plq l S U := ⟨g.1.trans h.1, g.2.1.trans h.2.1, g.2.2.1.trans h.2.2.1, g.2.2.2.1.trans h.2.2.2.1, fun x a b => (g.2.2.2.2 x a b).trans (h.2.2.2.2 x a b)⟩
theorem PR_k {C D S T : mS} {l : Nat} (h1 : D (24 + l) = C (24 + l)) (h2 : D (24 + l + 6) = C (24 + l + 6)) (hp : plq l S T) (h : PR C S l) : PR D T l := by
  obtain ⟨a, b, c⟩ := h
  obtain ⟨p6, p7, p9, p0, p8⟩ := hp
  unfold PR
  rw [h1, h2, p6, p7, p9, p0]
  refine ⟨a, b, fun j j0 j1 => ?_⟩
  rw [p8 j j0 (by omega)]
  exact c j j0 j1
theorem free_eq {T : mS} {n : Int} {Q : Nat → mS} (h : SCH T 2 n Q) (ht : 0 ≤ T 15 0 ∧ T 15 0 ≤ 1000000) {l : Int} (hl : 0 ≤ l) {m : Nat} (hm : m ≤ 8) : (decide (n < 0) || frF n.toNat Q l (T 15 0) m) = freeF T l m := by
  unfold freeF frF
  rw [h.2.1]
  congr 1
  refine allN_congr (fun k hk => ?_)
  unfold freeK
  rw [h.own hl (by omega)]
  have hr := fstN_r (n := (T 7 2).toNat) (f := spI T 2 l (T 15 0 + (k : Int)))
  have hr : -1 ≤ spF T 2 l (T 15 0 + (k : Int)) ∧ _ := hr
  rw [decide_eq_decide]
  omega
theorem bf_row {C : mS} {l : Nat} : bfF C l (24 + l) 0 = C (24 + l) 0 ∧ bfF C l (24 + l) 1 = C (24 + l) 1 - 1 ∧ bfF C l (24 + l) 3 = C (24 + l + 6) 0 ∧ bfF C l (24 + l) 4 = C (24 + l) 4 ∧ ∀ j : Int, 0 ≤ j → j < C (24 + l) 1 - 1 → bfF C l (24 + l + 6) j = C (24 + l + 6) (j + 1) := by
  unfold bfF
  refine ⟨?_, mw_s, ?_, ?_, fun j j0 j1 => ?_⟩
  · rw [mw_e (by decide), bf_at l _ _ _ (by omega), mw_e (by decide)]
  · rw [mw_e (by decide), bf_at l _ _ _ (by omega), mw_s]
  · rw [mw_e (by decide), bf_at l _ _ _ (by omega), mw_e (by decide)]
  · rw [mw_k (by omega), bf1_at, if_pos (by omega), mw_k (by omega)]
theorem svB_row {S : mS} {l : Int} : svB S l 26 = S 26 ∧ svB S l 30 = S 30 ∧ (∀ e, svB S l 27 e = if e = l then S 27 l - 1 else S 27 e) ∧ (∀ e, svB S l 29 e = if e = l then S 28 (4 * l) else S 29 e) ∧ ∀ e, svB S l 28 e = if 4 * l ≤ e ∧ e < 4 * l + (S 27 l - 1).toNat then S 28 (e + 1) else S 28 e := by
  unfold svB
  refine ⟨?_, ?_, fun e => ?_, fun e => ?_, fun e => ?_⟩
  · rw [sv_at l _ _ 26 (by decide), mw_ne 26 (by decide), mw_ne 26 (by decide)]
  · rw [sv_at l _ _ 30 (by decide), mw_ne 30 (by decide), mw_ne 30 (by decide)]
  · rw [sv_at l _ _ 27 (by decide)]
    by_cases q : e = l
    · subst q; rw [mw_s, if_pos rfl, mw_k (by decide)]
    · rw [mw_e q, if_neg q, mw_k (by decide)]
  · rw [sv_at l _ _ 29 (by decide), mw_k (by decide)]
    by_cases q : e = l
    · subst q; rw [mw_s, if_pos rfl]
    · rw [mw_e q, if_neg q]
  · rw [sv1_at, mw_ne 28 (by decide), mw_ne 28 (by decide)]
theorem svU_row {S : mS} {l : Nat} (hl : l < 6) {C : mS} {n : Int} {Q : Nat → mS} (h : PR C S l) (hs : SCH S 2 n Q) (h9 : C 0 9 = S 15 0) (ht : 0 ≤ S 15 0 ∧ S 15 0 ≤ 1000000) : PR (bwF C n Q l) (if svA S (l : Int) = true then svB S (l : Int) else S) l ∧ (S 26 (l : Int) ≠ 0 → (if svA S (l : Int) = true then svB S (l : Int) else S) 29 (l : Int) = S 29 (l : Int)) := by
  have h0 := id h
  obtain ⟨⟨a0, a1, a3, a4⟩, ⟨b6, b7, b9⟩, c⟩ := h0
  have e : (cbF C l && (decide (n < 0) || frF n.toNat Q (l : Int) (C 0 9) (C (24 + l + 6) 0).toNat)) = svA S (l : Int) := by
    unfold cbF svA
    rw [a0, a1, a3, h9]
    by_cases q : 0 < S 27 (l : Int)
    · obtain ⟨c1, c2, c3⟩ := c 0 (Int.le_refl _) q
      rw [Int.add_zero] at c1 c2 c3
      rw [c1, free_eq hs ht (by omega) (by omega)]
    · rw [decide_eq_false q, Bool.and_false, Bool.false_and, Bool.false_and]
  unfold bwF
  rw [e]
  cases hA : svA S (l : Int) with
  | false => exact ⟨h, fun _ => rfl⟩
  | true =>
    rw [if_pos rfl, if_pos rfl]
    unfold svA at hA
    rw [Bool.and_eq_true, Bool.and_eq_true, Bool.and_eq_true, decide_eq_true_eq, decide_eq_true_eq, decide_eq_true_eq] at hA
    obtain ⟨⟨⟨g1, g2⟩, g3⟩, -⟩ := hA
    obtain ⟨f0, f1, f3, f4, f6⟩ := bf_row (C := C) (l := l)
    obtain ⟨s6, s0, s7, s9, s8⟩ := svB_row (S := S) (l := (l : Int))
    obtain ⟨c1, c2, c3⟩ := c 0 (Int.le_refl _) g3
    rw [Int.add_zero] at c1 c2 c3
    refine ⟨?_, fun q => absurd g2 q⟩
    unfold PR
    rw [f0, f1, f3, f4, s6, s0, s7, s9, if_pos rfl, if_pos rfl, a0, a1, a4, c1]
    refine ⟨⟨rfl, rfl, rfl, rfl⟩, ⟨b6, by omega, by omega⟩, fun j j0 j1 => ?_⟩
    rw [f6 j j0 (by omega), s8, if_pos (by omega)]
    have := c (j + 1) (by omega) (by omega)
    rw [show 4 * (l : Int) + j + 1 = 4 * (l : Int) + (j + 1) by omega]
    exact this
theorem svE_row {S : mS} {l : Int} : svE S l 26 = S 26 ∧ svE S l 27 = S 27 ∧ svE S l 28 = S 28 ∧ (∀ e, svE S l 29 e = if 0 < S 29 l ∧ e = l then S 29 l - 1 else S 29 e) ∧ ∀ e, svE S l 30 e = if (0 < S 29 l ∧ e = l) ∧ S 29 l - 1 = 0 then S 30 l + 1 else S 30 e := by
  unfold svE
  by_cases h : 0 < S 29 l
  · rw [if_pos h]
    refine ⟨?_, ?_, ?_, fun e => ?_, fun e => ?_⟩
    · rw [mw_ne 26 (by decide), mw_ne 26 (by decide)]
    · rw [mw_ne 27 (by decide), mw_ne 27 (by decide)]
    · rw [mw_ne 28 (by decide), mw_ne 28 (by decide)]
    · rw [mw_k (by decide)]
      by_cases q : e = l
      · subst q; rw [mw_s, if_pos ⟨h, rfl⟩]
      · rw [mw_e q, if_neg (fun z => q z.2)]
    · by_cases q : e = l
      · subst q
        rw [mw_s, mw_s, mw_k (by decide)]
        by_cases q2 : S 29 e - 1 = 0
        · rw [if_pos q2, if_pos ⟨⟨h, rfl⟩, q2⟩]
        · rw [if_neg q2, if_neg (fun z => q2 z.2)]
      · rw [mw_e q, mw_k (by decide), if_neg (fun z => q z.1.2)]
  · rw [if_neg h]
    exact ⟨rfl, rfl, rfl, fun e => by rw [if_neg (fun z => h z.1)], fun e => by rw [if_neg (fun z => h z.1.1)]⟩
theorem et_row {C : mS} {l : Nat} : etF C l (24 + l) 0 = C (24 + l) 0 ∧ etF C l (24 + l) 1 = C (24 + l) 1 ∧ etF C l (24 + l) 3 = (if 0 < C (24 + l) 3 then C (24 + l) 3 - 1 else C (24 + l) 3) ∧ etF C l (24 + l) 4 = (if 0 < C (24 + l) 3 ∧ C (24 + l) 3 - 1 = 0 then C (24 + l) 4 + 1 else C (24 + l) 4) ∧ etF C l (24 + l + 6) = C (24 + l + 6) := by
  unfold etF
  by_cases h : 0 < C (24 + l) 3
  · rw [if_pos h, if_pos h]
    by_cases q : C (24 + l) 3 - 1 = 0
    · rw [if_pos q, if_pos ⟨h, q⟩]
      exact ⟨by rw [mw_e (by decide), mw_e (by decide)], by rw [mw_e (by decide), mw_e (by decide)], by rw [mw_e (by decide), mw_s], mw_s, by rw [mw_ne _ (by omega), mw_ne _ (by omega)]⟩
    · rw [if_neg q, if_neg (fun z => q z.2)]
      exact ⟨mw_e (by decide), mw_e (by decide), mw_s, mw_e (by decide), mw_ne _ (by omega)⟩
  · rw [if_neg h, if_neg h, if_neg (fun z => h z.1)]
    exact ⟨rfl, rfl, rfl, rfl, rfl⟩
theorem PR_et {C S : mS} {l : Nat} (h : PR C S l) : PR (etF C l) (svE S (l : Int)) l := by
  obtain ⟨⟨a0, a1, a3, a4⟩, ⟨b6, b7, b9⟩, c⟩ := h
  obtain ⟨s6, s7, s8, s9, s0⟩ := svE_row (S := S) (l := (l : Int))
  obtain ⟨f0, f1, f3, f4, f6⟩ := et_row (C := C) (l := l)
  unfold PR
  rw [f0, f1, f3, f4, f6, s6, s7, s8, s9, s0, a0, a1, a3, a4]
  refine ⟨⟨rfl, rfl, ?_, ?_⟩, ⟨b6, b7, ?_⟩, c⟩
  · by_cases q : 0 < S 29 (l : Int)
    · rw [if_pos q, if_pos ⟨q, rfl⟩]
    · rw [if_neg q, if_neg (fun z => q z.1)]
  · by_cases q : 0 < S 29 (l : Int) ∧ S 29 (l : Int) - 1 = 0
    · rw [if_pos q, if_pos ⟨⟨q.1, rfl⟩, q.2⟩]
    · rw [if_neg q, if_neg (fun z => q ⟨z.1.1, z.2⟩)]
  · split <;> omega
/-- a link's serving leaves the other links alone -/
theorem svF_k {S : mS} {m : Nat} {k : Nat} (h : k < 27 ∨ 30 < k) : svF S m k = S k := by
  unfold svF
  have h1 : ∀ U : mS, svE U (m : Int) k = U k := fun U => by
    unfold svE
    split
    · rw [mw_ne k (by omega), mw_ne k (by omega)]
    · rfl
  rw [h1]
  split
  · unfold svB
    rw [sv_at _ _ _ k (by omega), mw_ne k (by omega), mw_ne k (by omega)]
  · rfl
theorem svU_pl {S : mS} {l m : Nat} (h : l ≠ m) (h7 : 0 ≤ S 27 (m : Int) ∧ S 27 (m : Int) ≤ 4) : plq l S (if svA S (m : Int) = true then svB S (m : Int) else S) := by
  split
  · obtain ⟨s6, s0, s7, s9, s8⟩ := svB_row (S := S) (l := (m : Int))
    refine ⟨by rw [s6], by rw [s7, if_neg (by omega)], by rw [s9, if_neg (by omega)], by rw [s0], fun x x0 x1 => by rw [s8, if_neg (by omega)]⟩
  · exact plq.rfl'
theorem svE_pl {S : mS} {l m : Nat} (h : l ≠ m) : plq l S (svE S (m : Int)) := by
  obtain ⟨s6, s7, s8, s9, s0⟩ := svE_row (S := S) (l := (m : Int))
  exact ⟨by rw [s6], by rw [s7], by rw [s9, if_neg (by omega)], by rw [s0, if_neg (by omega)], fun x x0 x1 => by rw [s8]⟩
theorem svF_pl {S : mS} {l m : Nat} (h : l ≠ m) (h7 : 0 ≤ S 27 (m : Int) ∧ S 27 (m : Int) ≤ 4) : plq l S (svF S m) := (svU_pl h h7).tr (svE_pl h)
/-- six links, one after another -/
theorem sv_all {D T : mS} {n : Int} {Q : Nat → mS} (hs : SCH T 2 n Q) (h9 : D 0 9 = T 15 0) (ht : 0 ≤ T 15 0 ∧ T 15 0 ≤ 1000000) (hp : ∀ l : Nat, l < 6 → PR D T l) : ∀ j : Nat, j ≤ 6 → (∀ k, (k < 27 ∨ 30 < k) → itN j svF T k = T k) ∧ (∀ l : Nat, j ≤ l → l < 6 → plq l T (itN j svF T)) ∧ (∀ l : Nat, l < j → ∃ U, PR (bwF (itN l (fun T l => bwF T n Q l) D) n Q l) U l ∧ plq l (svE U (l : Int)) (itN j svF T)) ∧ (∀ l : Nat, l < j → T 26 (l : Int) ≠ 0 → T 29 (l : Int) = 0 → itN j svF T 29 (l : Int) = 0)
  | 0, _ => ⟨fun _ _ => rfl, fun _ _ _ => plq.rfl', fun l hl => absurd hl (Nat.not_lt_zero _), fun l hl => absurd hl (Nat.not_lt_zero _)⟩
  | j + 1, hj => by
    obtain ⟨h1, h2, h3, h4⟩ := sv_all hs h9 ht hp j (by omega)
    show (∀ k, (k < 27 ∨ 30 < k) → svF (itN j svF T) j k = T k) ∧ (∀ l : Nat, j + 1 ≤ l → l < 6 → plq l T (svF (itN j svF T) j)) ∧ (∀ l : Nat, l < j + 1 → ∃ U, PR (bwF (itN l (fun T l => bwF T n Q l) D) n Q l) U l ∧ plq l (svE U (l : Int)) (svF (itN j svF T) j)) ∧ (∀ l : Nat, l < j + 1 → T 26 (l : Int) ≠ 0 → T 29 (l : Int) = 0 → svF (itN j svF T) j 29 (l : Int) = 0)
    generalize itN j svF T = V at h1 h2 h3 h4 ⊢
    have hpj := h2 j (Nat.le_refl _) (by omega)
    have k0 : itN j (fun T l => bwF T n Q l) D 0 = D 0 := bwA_k (by omega)
    have k1 : itN j (fun T l => bwF T n Q l) D (24 + j) = D (24 + j) := bwA_k (by omega)
    have k2 : itN j (fun T l => bwF T n Q l) D (24 + j + 6) = D (24 + j + 6) := bwA_k (by omega)
    have h15 : V 15 = T 15 := h1 15 (by omega)
    have hPR : PR (itN j (fun T l => bwF T n Q l) D) V j := PR_k k1 k2 hpj (hp j (by omega))
    obtain ⟨u1, u2⟩ := svU_row (C := itN j (fun T l => bwF T n Q l) D) (S := V) (n := n) (Q := Q) (by omega) hPR (SCH_k hs (fun r _ _ => h1 r (by omega))) (by rw [k0, h15]; exact h9) (by rw [h15]; exact ht)
    have h7 : 0 ≤ V 27 (j : Int) ∧ V 27 (j : Int) ≤ 4 := hPR.2.1.2.1
    refine ⟨fun k hk => (svF_k hk).trans (h1 k hk), fun l l0 l1 => (h2 l (by omega) l1).tr (svF_pl (by omega) h7), fun l hl => ?_, fun l hl c6 c9 => ?_⟩
    · by_cases q : l = j
      · subst q
        exact ⟨_, u1, plq.rfl'⟩
      · obtain ⟨U, a, b⟩ := h3 l (by omega)
        exact ⟨U, a, b.tr (svF_pl q h7)⟩
    · by_cases q : l = j
      · subst q
        have e6 : V 26 (l : Int) = T 26 (l : Int) := hpj.1
        have e9 : V 29 (l : Int) = T 29 (l : Int) := hpj.2.2.1
        have e := u2 (by rw [e6]; exact c6)
        unfold svF
        rw [(svE_row (l := (l : Int))).2.2.2.1, e, e9, c9, if_neg (by omega)]
      · rw [(svF_pl (S := V) q h7).2.2.1]
        exact h4 l (by omega) c6 c9
theorem ts_sv {D T : mS} {n : Int} {Q : Nat → mS} (hs : SCH T 2 n Q) (h9 : D 0 9 = T 15 0) (ht : 0 ≤ T 15 0 ∧ T 15 0 ≤ 1000000) (hp : ∀ l : Nat, l < 6 → PR D T l) (v w : Int) : (∀ l : Nat, l < 6 → PR (etA (mw (bwA n Q D) 0 9 w)) (mw (itN 6 svF T) 15 0 v) l) ∧ (∀ l : Nat, l < 6 → TKc (itN l svF T) (l : Int)) ∧ (∀ k, (k < 27 ∨ 30 < k) → itN 6 svF T k = T k) ∧ (∀ l : Nat, l < 6 → T 26 (l : Int) ≠ 0 → T 29 (l : Int) = 0 → itN 6 svF T 29 (l : Int) = 0) ∧ ∀ k, k ≠ 0 → k < 24 → etA (mw (bwA n Q D) 0 9 w) k = D k := by
  refine ⟨fun l hl => ?_, fun l hl => ?_, (sv_all hs h9 ht hp 6 (Nat.le_refl 6)).1, (sv_all hs h9 ht hp 6 (Nat.le_refl 6)).2.2.2, fun k k0 k1 => ?_⟩
  · obtain ⟨U, a, b⟩ := (sv_all hs h9 ht hp 6 (Nat.le_refl 6)).2.2.1 l hl
    obtain ⟨e1, e2⟩ := itL_in (f := fun T l => etF T l) (fun _ _ _ h1 _ => etF_k h1) (mw (bwA n Q D) 0 9 w) hl hl (Nat.le_refl 6)
    obtain ⟨d1, d2⟩ := itL_in (f := fun T l => bwF T n Q l) (fun _ _ _ h1 h2 => bwF_k h1 h2) D hl hl (Nat.le_refl 6)
    have x1 : itN l (fun T l => etF T l) (mw (bwA n Q D) 0 9 w) (24 + l) = bwF (itN l (fun T l => bwF T n Q l) D) n Q l (24 + l) := by
      rw [show itN l (fun T l => etF T l) (mw (bwA n Q D) 0 9 w) (24 + l) = mw (bwA n Q D) 0 9 w (24 + l) from etA_k (by omega), mw_ne _ (by omega)]
      exact d1
    have x2 : itN l (fun T l => etF T l) (mw (bwA n Q D) 0 9 w) (24 + l + 6) = bwF (itN l (fun T l => bwF T n Q l) D) n Q l (24 + l + 6) := by
      rw [show itN l (fun T l => etF T l) (mw (bwA n Q D) 0 9 w) (24 + l + 6) = mw (bwA n Q D) 0 9 w (24 + l + 6) from etA_k (by omega), mw_ne _ (by omega)]
      exact d2
    refine PR_k e1 e2 (b.tr ⟨mw_k (by decide), mw_k (by decide), mw_k (by decide), mw_k (by decide), fun _ _ _ => mw_k (by decide)⟩) (PR_et (PR_k x1 x2 plq.rfl' a))
  · obtain ⟨h1, h2, -, -⟩ := sv_all hs h9 ht hp l (by omega)
    have hP := PR_k rfl rfl (h2 l (Nat.le_refl l) hl) (hp l hl)
    obtain ⟨-, ⟨b6, b7, b9⟩, c⟩ := hP
    refine ⟨⟨b9, by omega, b7, fun q => ?_⟩, ?_, (SCH_k hs (fun r _ _ => h1 r (by omega))).mSch⟩
    · have := (c 0 (Int.le_refl _) q).2
      rw [Int.add_zero] at this
      exact this
    · unfold mTm
      rw [h1 15 (by omega)]
      exact ht
  · rw [show etA (mw (bwA n Q D) 0 9 w) k = mw (bwA n Q D) 0 9 w k from etA_k (by omega), mw_ne k k0]
    exact bwA_k (by omega)
