/-! a tick of both sides: the streams speak -/
def TSB (C S : mS) (n : Int) (Q : Nat → mS) (na : Int) (Qa : Nat → mS) : Prop := (C 0 9 = S 15 0 ∧ 0 ≤ S 15 0) ∧ SCH S 2 n Q ∧ SCH S 1 na Qa ∧ (∀ i : Nat, (i : Int) < n → TR C S i) ∧ RG S ∧ (∀ l : Nat, l < 6 → PR C S l) ∧ VF S n (S 15 0) ∧ CUT S
theorem TR_k {C D S T : mS} {i : Nat} (hC : D (13 + i) = C (13 + i)) (hC5 : D (13 + i + 5) = C (13 + i + 5)) (hS : ∀ k, 16 ≤ k → k ≤ 22 → T k (i : Int) = S k (i : Int)) (hf : flS T (i : Int) = flS S (i : Int)) (h : TR C S i) : TR D T i := by
  unfold TR at h ⊢
  rw [hC, stL_k hC hC5, hf, hS 16 (by decide) (by decide), hS 17 (by decide) (by decide), hS 18 (by decide) (by decide), hS 19 (by decide) (by decide), hS 20 (by decide) (by decide), hS 21 (by decide) (by decide), hS 22 (by decide) (by decide)]
  exact h
theorem FL_app {T : mS} {i t : Int} (h0 : 0 ≤ T 23 0) : FL (mw (mw (mw T 24 (T 23 0) i) 25 (T 23 0) t) 23 0 (T 23 0 + 1)) = FL T ++ [(i, t)] := by
  obtain ⟨n, hn⟩ : ∃ n : Nat, T 23 0 = (n : Int) := ⟨(T 23 0).toNat, by omega⟩
  unfold FL
  rw [mw_s, hn, show ((n : Int) + 1).toNat = n + 1 by omega, rg_s, Int.toNat_natCast, mw_k (k := 23) (a := 24) (by decide), mw_k (k := 23) (a := 25) (by decide), mw_k (k := 25) (a := 24) (by decide), mw_s, mw_s]
  congr 1
  refine List.map_congr_left (fun x hx => ?_)
  have := List.mem_range.mp hx
  rw [mw_k (by decide), mw_k (by decide), mw_e (by omega), mw_k (by decide), mw_e (by omega), mw_k (by decide)]
theorem flS_app {S T : mS} {i t : Int} (h : FL T = FL S ++ [(i, t)]) (j : Int) : flS T j = if j = i then flS S j ++ [t] else flS S j := by
  unfold flS
  rw [h, List.filter_append, List.map_append]
  by_cases q : j = i
  · rw [if_pos q, List.filter_cons_of_pos (by simp [q])]; rfl
  · rw [if_neg q, List.filter_cons_of_neg (by simpa using fun z : i = j => q z.symm)]; simp
theorem bz_tm {a p o : Int} (ha : 0 ≤ a) (hp : p = 8 ∨ p = 16 ∨ p = 32) (ho : 0 ≤ o ∧ o < p) : a.tmod p = o ↔ (a - o) % p = 0 := by
  rw [Int.tmod_eq_emod_of_nonneg ha]
  rcases hp with rfl | rfl | rfl <;> omega
def tkJ (A C : mS) (n : Int) (j : Nat) (T D : mS) : Prop := (∀ k, k ≠ 18 → k ≠ 21 → k ≠ 23 → k ≠ 24 → k ≠ 25 → T k = A k) ∧ (∀ i : Nat, j ≤ i → flS T (i : Int) = flS A (i : Int)) ∧ VF T n (A 15 0) ∧ RG T ∧ (∀ i : Nat, (i : Int) < n → TR D T i) ∧ (∀ x ∈ FL T, x ∈ FL A ∨ (x.2 = A 15 0 ∧ 0 ≤ x.1 ∧ x.1 < n)) ∧ ∀ k, (k < 13 ∨ 23 ≤ k) → D k = C k
theorem tkJ_1 {A C : mS} {n na : Int} {Q Qa : Nat → mS} {j : Nat} {T D : mS} (h : TS C A n Q na Qa) (hj : (j : Int) < n) (hI : tkJ A C n j T D) : tkJ A C n (j + 1) (tk1 T j) (spk D j (Q j) (C 0 9)) := by
  obtain ⟨⟨h9, h15⟩, h2, h1, -, -, -, hvf, -⟩ := h
  obtain ⟨i1, i2, i3, i4, i5, i6, i7⟩ := hI
  have hn5 := h2.1.2
  have hp := h2.2.2.1 j hj
  rw [show (5 * 2 + (j : Int)) = 10 + (j : Int) by omega, show (15 * 2 + 3 * (j : Int)) = 30 + 3 * (j : Int) by omega] at hp
  obtain ⟨t1, t2, t3, t4, t5, t6, t7, t8, t9⟩ := i5 j hj
  have hr := i4 (j : Int) (by omega) (by omega)
  have r17 := i1 17 (by decide) (by decide) (by decide) (by decide) (by decide)
  have r15 := i1 15 (by decide) (by decide) (by decide) (by decide) (by decide)
  have r16 := i1 16 (by decide) (by decide) (by decide) (by decide) (by decide)
  have r8 := i1 8 (by decide) (by decide) (by decide) (by decide) (by decide)
  have r10 := i1 10 (by decide) (by decide) (by decide) (by decide) (by decide)
  have eB : spkB D j (Q j) (C 0 9) = tkB T j := by
    refine Bool.eq_iff_iff.mpr ?_
    unfold spkB tkB begAt
    rw [Bool.and_eq_true, Bool.and_eq_true, Bool.and_eq_true, Bool.and_eq_true, decide_eq_true_eq, decide_eq_true_eq, decide_eq_true_eq, decide_eq_true_eq, decide_eq_true_eq, decide_eq_true_eq, t1, t2, h9, r15, r8, r10, hp.1.1, hp.1.2.2.1]
    obtain ⟨m8, -, m10, -⟩ := hp.2.2.2.1
    by_cases h0 : 0 ≤ A 15 0 - T 17 (j : Int)
    · rw [bz_tm h0 m8 m10]
      exact and_congr (and_congr (by omega) Iff.rfl) Iff.rfl
    · exact ⟨fun q => absurd q.1.2 h0, fun q => absurd q.1.2 h0⟩
  have eD : spkD D j = tkD T j := by unfold spkD tkD; rw [t2, t3]
  have lat : ∀ i, latR T i = latR A i := fun i => latR_st (fun k hk => i1 k (by omega) (by omega) (by omega) (by omega) (by omega)) i
  unfold spk tk1
  rw [eB, eD]
  cases hB : tkB T j with
  | false =>
    rw [if_neg (by decide), if_neg (by decide)]
    exact ⟨i1, fun i hi => i2 i (by omega), i3, i4, i5, i6, i7⟩
  | true =>
    rw [if_pos rfl, if_pos rfl]
    cases hD : tkD T j with
    | true =>
      rw [if_pos rfl, if_pos rfl]
      have fl : FL (mw (mw T 21 (j : Int) (T 21 (j : Int) + 1)) 18 (j : Int) 1) = FL T := FL_k ((mw_ne 23 (by decide)).trans (mw_ne 23 (by decide))) ((mw_ne 24 (by decide)).trans (mw_ne 24 (by decide))) ((mw_ne 25 (by decide)).trans (mw_ne 25 (by decide)))
      have fs : ∀ i, flS (mw (mw T 21 (j : Int) (T 21 (j : Int) + 1)) 18 (j : Int) 1) i = flS T i := fun i => by unfold flS; rw [fl]
      refine ⟨fun k a b c d e => by rw [mw_ne k a, mw_ne k b, i1 k a b c d e], fun i hi => by rw [fs, i2 i (by omega)], ⟨by rw [mw_k (by decide), mw_k (by decide)]; exact i3.1, fun x hx => ?_, fun i => by rw [fs]; exact i3.2.2 i⟩, fun i i0 i1 => ?_, fun i hi => ?_, fun x hx => by rw [fl] at hx; exact i6 x hx, fun k hk => by rw [mw_ne k (by omega), mw_ne k (by omega)]; exact i7 k hk⟩
      · rw [fl] at hx
        rw [mw_k (by decide), mw_k (by decide), mw_k (by decide), mw_k (by decide), mw_k (by decide), mw_k (by decide), latR_st (S := T) (fun k hk => by rw [mw_ne k (by omega), mw_ne k (by omega)])]
        exact i3.2.1 x hx
      · obtain ⟨a, b, c⟩ := i4 i i0 i1
        rw [mw_k (by decide), mw_k (by decide), mw_k (by decide), mw_k (by decide)]
        refine ⟨a, b, ?_⟩
        by_cases q : i = (j : Int)
        · subst q; rw [mw_s]; exact Or.inr rfl
        · rw [mw_e q, mw_k (by decide)]; exact c
      · by_cases q : i = j
        · subst q
          unfold TR
          have e : stL (mw (mw D (13 + i) 7 (D (13 + i) 7 + 1)) (13 + i) 3 1) i = stL D i := by
            unfold stL
            rw [mw_e (by decide), mw_e (by decide), mw_ne (13 + i + 5) (by omega), mw_ne (13 + i + 5) (by omega)]
          have hm : ∀ e, e ≠ 3 → e ≠ 7 → mw (mw D (13 + i) 7 (D (13 + i) 7 + 1)) (13 + i) 3 1 (13 + i) e = D (13 + i) e := fun e a b => by rw [mw_e a, mw_e b]
          have hm3 : mw (mw D (13 + i) 7 (D (13 + i) 7 + 1)) (13 + i) 3 1 (13 + i) 3 = 1 := mw_s
          have hm7 : mw (mw D (13 + i) 7 (D (13 + i) 7 + 1)) (13 + i) 3 1 (13 + i) 7 = D (13 + i) 7 + 1 := by rw [mw_e (by decide), mw_s]
          have kk : ∀ k, k ≠ 18 → k ≠ 21 → mw (mw T 21 (i : Int) (T 21 (i : Int) + 1)) 18 (i : Int) 1 k (i : Int) = T k (i : Int) := fun k a b => by rw [mw_k a, mw_k b]
          have k18 : mw (mw T 21 (i : Int) (T 21 (i : Int) + 1)) 18 (i : Int) 1 18 (i : Int) = 1 := mw_s
          have k21 : mw (mw T 21 (i : Int) (T 21 (i : Int) + 1)) 18 (i : Int) 1 21 (i : Int) = T 21 (i : Int) + 1 := by rw [mw_k (by decide), mw_s]
          rw [e, fs, hm 1 (by decide) (by decide), hm 2 (by decide) (by decide), hm3, hm 5 (by decide) (by decide), hm 6 (by decide) (by decide), hm7, hm 8 (by decide) (by decide), hm 4 (by decide) (by decide), kk 16 (by decide) (by decide), kk 17 (by decide) (by decide), k18, kk 19 (by decide) (by decide), kk 20 (by decide) (by decide), k21, kk 22 (by decide) (by decide)]
          exact ⟨t1, t2, rfl, t4, t5, by omega, t7, t8, t9⟩
        · refine TR_k ((mw_ne _ (by omega)).trans (mw_ne _ (by omega))) ((mw_ne _ (by omega)).trans (mw_ne _ (by omega))) (fun k k1 k2 => ?_) (fs _) (i5 i hi)
          rw [mw_e (by omega), mw_e (by omega)]
    | false =>
      rw [if_neg (by decide), if_neg (by decide)]
      have hrm := VF_room h2 hvf (i := (j : Int)) (by omega) hj (by
        unfold tkB at hB
        unfold tkD at hD
        rw [Bool.and_eq_true, Bool.and_eq_true, decide_eq_true_eq, decide_eq_true_eq, decide_eq_true_eq, r15, r8, r10] at hB
        rw [Bool.or_eq_false_iff, decide_eq_false_iff_not] at hD
        have h17 : T 17 (j : Int) = 0 := by omega
        rw [h17, Int.sub_zero] at hB
        exact (bz_tm hB.1.2 hp.2.2.2.1.1 hp.2.2.2.1.2.2.1).mp hB.2)
      have hlen := stL_len (C := D) (i := j)
      rw [t9, i2 j (Nat.le_refl j)] at hlen
      rw [if_pos (by omega)]
      have e24 : mw T 24 (T 23 0) (j : Int) 23 0 = T 23 0 := mw_k (by decide)
      have e15 : mw T 24 (T 23 0) (j : Int) 15 0 = A 15 0 := by rw [mw_k (by decide), r15]
      have e25 : mw (mw T 24 (T 23 0) (j : Int)) 25 (T 23 0) (A 15 0) 23 0 = T 23 0 := by rw [mw_k (by decide), mw_k (by decide)]
      rw [e24, e15, e25]
      have fl := FL_app (i := (j : Int)) (t := A 15 0) i3.1
      have fs := flS_app fl
      have kk : ∀ k, k ≠ 23 → k ≠ 24 → k ≠ 25 → mw (mw (mw T 24 (T 23 0) (j : Int)) 25 (T 23 0) (A 15 0)) 23 0 (T 23 0 + 1) k = T k := fun k a b c => by rw [mw_ne k a, mw_ne k c, mw_ne k b]
      have k23 : mw (mw (mw T 24 (T 23 0) (j : Int)) 25 (T 23 0) (A 15 0)) 23 0 (T 23 0 + 1) 23 0 = T 23 0 + 1 := mw_s
      generalize mw (mw (mw T 24 (T 23 0) (j : Int)) 25 (T 23 0) (A 15 0)) 23 0 (T 23 0 + 1) = U at fl fs kk k23 ⊢
      have latU : ∀ i, latR U i = latR T i := fun i => latR_st (fun k hk => kk k (by omega) (by omega) (by omega)) i
      refine ⟨fun k a b c d e => by rw [kk k c d e, i1 k a b c d e], fun i hi => by rw [fs, if_neg (by omega), i2 i (by omega)], ⟨by rw [k23]; have := i3.1; omega, fun x hx => ?_, fun i => ?_⟩, fun i i0 i1 => ?_, fun i hi => ?_, fun x hx => ?_, fun k hk => by rw [mw_ne k (by omega), mw_ne k (by omega)]; exact i7 k hk⟩
      · rw [kk 10 (by decide) (by decide) (by decide), kk 8 (by decide) (by decide) (by decide), kk 15 (by decide) (by decide) (by decide), latU]
        rw [fl] at hx
        rcases List.mem_append.mp hx with q | q
        · exact i3.2.1 x q
        · rw [List.mem_singleton] at q
          subst q
          have hl := latR_60 h2 (i := (j : Int)) (by omega) hj
          rw [lat, r15]
          refine ⟨⟨by show 0 ≤ (j : Int); omega, hj⟩, ⟨h15, Int.le_refl _⟩, ?_, by show A 15 0 - A 15 0 ≤ latR A (j : Int); omega⟩
          unfold tkB at hB
          unfold tkD at hD
          rw [Bool.and_eq_true, Bool.and_eq_true, decide_eq_true_eq, decide_eq_true_eq, decide_eq_true_eq, r15] at hB
          rw [Bool.or_eq_false_iff, decide_eq_false_iff_not] at hD
          have h17 : T 17 (j : Int) = 0 := by omega
          rw [h17, Int.sub_zero] at hB
          exact (bz_tm hB.1.2 (by rw [r8]; exact hp.2.2.2.1.1) (by rw [r8, r10]; exact hp.2.2.2.1.2.2.1)).mp hB.2
      · rw [fs]
        by_cases q : i = (j : Int)
        · rw [if_pos q]
          refine gap_app (i3.2.2 i) (fun s hs => ?_)
          rw [q, i2 j (Nat.le_refl j)] at hs
          exact hrm.2 s hs
        · rw [if_neg q]; exact i3.2.2 i
      · rw [kk 17 (by decide) (by decide) (by decide), kk 16 (by decide) (by decide) (by decide), kk 18 (by decide) (by decide) (by decide)]
        exact i4 i i0 i1
      · by_cases q : i = j
        · subst q
          have hs := spk_lst (C := D) (i := i) (t := C 0 9) t8
          have hm : ∀ e, e ≠ 4 → mw (mw D (13 + i + 5) (D (13 + i) 4) (C 0 9)) (13 + i) 4 (D (13 + i) 4 + 1) (13 + i) e = D (13 + i) e := fun e he => by rw [mw_e he, mw_k (by omega)]
          have hm4 : mw (mw D (13 + i + 5) (D (13 + i) 4) (C 0 9)) (13 + i) 4 (D (13 + i) 4 + 1) (13 + i) 4 = D (13 + i) 4 + 1 := mw_s
          unfold TR
          rw [hs, fs, if_pos rfl, hm 1 (by decide), hm 2 (by decide), hm 3 (by decide), hm 5 (by decide), hm 6 (by decide), hm 7 (by decide), hm 8 (by decide), hm4, kk 16 (by decide) (by decide) (by decide), kk 17 (by decide) (by decide) (by decide), kk 18 (by decide) (by decide) (by decide), kk 19 (by decide) (by decide) (by decide), kk 20 (by decide) (by decide) (by decide), kk 21 (by decide) (by decide) (by decide), kk 22 (by decide) (by decide) (by decide)]
          exact ⟨t1, t2, t3, t4, t5, t6, t7, by omega, by rw [t9, h9]⟩
        · refine TR_k ((mw_ne _ (by omega)).trans (mw_ne _ (by omega))) ((mw_ne _ (by omega)).trans (mw_ne _ (by omega))) (fun k k1 k2 => by rw [kk k (by omega) (by omega) (by omega)]) ?_ (i5 i hi)
          rw [fs, if_neg (by omega)]
      · rw [fl] at hx
        rcases List.mem_append.mp hx with q | q
        · exact i6 x q
        · rw [List.mem_singleton] at q
          subst q
          exact Or.inr ⟨rfl, by show 0 ≤ (j : Int); omega, hj⟩
theorem hit_new {S : mS} {n : Int} {Q : Nat → mS} (h2 : SCH S 2 n Q) {x : Int × Int} (hx : x.2 = S 15 0 ∧ 0 ≤ x.1 ∧ x.1 < n) (l : Int) : hitP S l x = false := by
  obtain ⟨i, hi⟩ : ∃ i : Nat, x.1 = (i : Int) := ⟨x.1.toNat, by omega⟩
  have hp := h2.2.2.1 i (by omega)
  rw [show (5 * 2 + (i : Int)) = 10 + (i : Int) by omega, show (15 * 2 + 3 * (i : Int)) = 30 + 3 * (i : Int) by omega] at hp
  unfold hitP
  refine anyN_0 (fun j hj => ?_)
  have hb := binF_r hp.2.2.2.1 j (by have := laF_le S (30 + 3 * x.1); omega)
  rw [hi, decide_eq_false (p := x.2 + _ < _) (by omega), Bool.and_false, Bool.false_and]
theorem ts_tk {C S : mS} {n na : Int} {Q Qa : Nat → mS} (h : TS C S n Q na Qa) : TSB (if na < 0 then spA n.toNat Q (C 0 9) C else C) (tckB S) n Q na Qa ∧ (∀ k, k ≠ 18 → k ≠ 21 → k ≠ 23 → k ≠ 24 → k ≠ 25 → tckB S k = S k) ∧ ∀ k, (k < 13 ∨ 23 ≤ k) → (if na < 0 then spA n.toNat Q (C 0 9) C else C) k = C k := by
  have h0 := id h
  obtain ⟨⟨h9, h15⟩, h2, h1, htr, hrg, hpr, hvf, hcu⟩ := h0
  have hn5 := h2.1.2
  unfold tckB
  rw [h1.2.1]
  by_cases hna : na < 0
  · rw [if_pos hna, if_pos hna]
    have key : ∀ j : Nat, j ≤ n.toNat → tkJ S C n j (itN j tk1 S) (itN j (fun T i => spk T i (Q i) (C 0 9)) C) := fun j => by
      induction j with
      | zero => intro _; exact ⟨fun _ _ _ _ _ _ => rfl, fun _ _ => rfl, ⟨hvf.1, fun x hx => by have := hvf.2.1 x hx; exact ⟨this.1, ⟨this.2.1.1, by have := this.2.1.2; omega⟩, this.2.2⟩, hvf.2.2⟩, hrg, htr, fun x hx => Or.inl hx, fun _ _ => rfl⟩
      | succ j ih => intro hj; exact tkJ_1 h (by omega) (ih (by omega))
    obtain ⟨i1, -, i3, i4, i5, i6, i7⟩ := key n.toNat (Nat.le_refl _)
    have e1 : tkF S = itN n.toNat tk1 S := by unfold tkF; rw [h2.2.1]
    have e2 : spA n.toNat Q (C 0 9) C = itN n.toNat (fun T i => spk T i (Q i) (C 0 9)) C := rfl
    rw [e1, e2]
    generalize itN n.toNat tk1 S = T at i1 i3 i4 i5 i6 ⊢
    generalize itN n.toNat (fun T i => spk T i (Q i) (C 0 9)) C = D at i5 i7 ⊢
    have hst : stR S T := fun k hk => i1 k (by omega) (by omega) (by omega) (by omega) (by omega)
    have h15' : T 15 = S 15 := hst 15 (by omega)
    have h2' : SCH T 2 n Q := SCH_k h2 (fun r _ _ => hst r (by omega))
    refine ⟨⟨⟨by rw [i7 0 (by omega), h15']; exact h9, by rw [h15']; exact h15⟩, h2', SCH_k h1 (fun r _ _ => hst r (by omega)), i5, i4, fun l hl => ?_, by rw [h15']; exact i3, fun l l0 l1 hl => ?_⟩, i1, i7⟩
    · unfold PR
      rw [i7 (24 + l) (by omega), i7 (24 + l + 6) (by omega), i1 26 (by decide) (by decide) (by decide) (by decide) (by decide), i1 27 (by decide) (by decide) (by decide) (by decide) (by decide), i1 28 (by decide) (by decide) (by decide) (by decide) (by decide), i1 29 (by decide) (by decide) (by decide) (by decide) (by decide), i1 30 (by decide) (by decide) (by decide) (by decide) (by decide)]
      exact hpr l hl
    · rw [i1 26 (by decide) (by decide) (by decide) (by decide) (by decide)] at hl
      rw [i1 29 (by decide) (by decide) (by decide) (by decide) (by decide)]
      refine ⟨(hcu l l0 l1 hl).1, fun x hx => ?_⟩
      rcases i6 x hx with q | q
      · rw [hitP_st hst]; exact (hcu l l0 l1 hl).2 x q
      · exact hit_new h2' ⟨by rw [h15']; exact q.1, q.2⟩ l
  · rw [if_neg hna, if_neg hna]
    exact ⟨⟨⟨h9, h15⟩, h2, h1, htr, hrg, hpr, ⟨hvf.1, fun x hx => by have := hvf.2.1 x hx; exact ⟨this.1, ⟨this.2.1.1, by have := this.2.1.2; omega⟩, this.2.2⟩, hvf.2.2⟩, hcu⟩, fun _ _ _ _ _ _ => rfl, fun _ _ => rfl⟩
