/-! cut, link -/
theorem rmv_id {pr : Int × Int → Bool} {S : mS} : ∀ n : Nat, (∀ f : Nat, f < n → pr (S 24 (f : Int), S 25 (f : Int)) = false) → rmv pr n S = S
  | 0, _ => rfl
  | n + 1, h => by
    rw [rmv, h n (Nat.lt_succ_self n), if_neg (by decide)]
    exact rmv_id n (fun f hf => h f (by omega))
theorem cut_1 {S : mS} {w : Int} (hw : thC w = 0) (hcu : S 26 w = 1 → S 29 w = 0 ∧ ∀ x ∈ FL S, hitP S w x = false) : cutS S w 1 = mw (rmv (hitP (mw (mw S 0 0 0) 26 w 1) w) (S 23 0).toNat (mw (mw S 0 0 0) 26 w 1)) 29 w 0 := by
  unfold cutS cutB
  rw [hw, decide_eq_true (p := (0 : Int) = 0) rfl, Bool.true_and]
  by_cases q : S 26 w = 1
  · rw [decide_eq_false (fun z => z q), if_neg (by decide)]
    have e1 : mw (mw S 0 0 0) 26 w 1 = mw S 0 0 0 := mw_same (by rw [mw_k (by decide)]; exact q)
    have hst : stR S (mw S 0 0 0) := fun k hk => mw_ne k (by omega)
    rw [e1, rmv_id, mw_same (S := mw S 0 0 0) (k := 29) (e := w) (v := 0) (by rw [mw_k (by decide)]; exact (hcu q).1)]
    intro f hf
    rw [hitP_st hst, mw_k (by decide), mw_k (by decide)]
    exact (hcu q).2 _ (List.mem_map.mpr ⟨f, List.mem_range.mpr hf, rfl⟩)
  · rw [decide_eq_true q, if_pos rfl]
    unfold cutX cutY
    rw [if_neg (by decide), if_neg (by decide), cu1_rmv _ _ (fun _ _ => rfl), mw_k (k := 0) (a := 23) (by decide)]
theorem cut_0 {S : mS} {w : Int} (hw : thC w = 0) : cutS S w 0 = mw (mw S 0 0 0) 26 w 0 := by
  unfold cutS cutB
  rw [hw, decide_eq_true (p := (0 : Int) = 0) rfl, Bool.true_and]
  by_cases q : S 26 w = 0
  · rw [decide_eq_false (fun z => z q), if_neg (by decide)]
    exact (mw_same (by rw [mw_k (by decide)]; exact q)).symm
  · rw [decide_eq_true q, if_pos rfl]
    unfold cutX cutY
    rw [if_pos rfl, if_pos rfl]
    exact mw_same rfl
theorem sm_cut {C S : mS} {n4 na n : Int} {Q4 Qa Q : Nat → mS} (h : SM C S n4 Q4 na Qa n Q) {w on : Int} (ho : on = 0 ∨ on = 1) : (thC w ≠ 0 → SM C (cutS S w on) n4 Q4 na Qa n Q) ∧ (thC w = 0 → SM (cuC C n Q w on) (cutS S w on) n4 Q4 na Qa n Q ∧ decide (C (24 + w.toNat) 0 ≠ on) = cutB S w on) := by
  refine ⟨fun q => ?_, fun q => ?_⟩
  · unfold cutS cutB
    rw [decide_eq_false q, Bool.false_and, if_neg (by decide)]
    exact SM_0 h _
  have hr : 0 ≤ w ∧ w < 6 := by unfold thC at q; split at q <;> omega
  have h0 := SM_0 h 0
  obtain ⟨-, -, -, -, -, hpr, -, hcuS⟩ := h.1
  have eB : decide (C (24 + w.toNat) 0 ≠ on) = cutB S w on := by
    unfold cutB
    rw [q, decide_eq_true (p := (0 : Int) = 0) rfl, Bool.true_and, (hpr w.toNat (by omega)).1.1, show ((w.toNat : Nat) : Int) = w by omega]
  refine ⟨?_, eB⟩
  have hcS : S 26 w = 1 → S 29 w = 0 ∧ ∀ x ∈ FL S, hitP S w x = false := fun z => hcuS w hr.1 hr.2 (by omega)
  have k23 : mw S 0 0 0 23 = S 23 := mw_ne 23 (by decide)
  clear eB
  obtain ⟨m, rfl⟩ : ∃ m : Nat, w = (m : Int) := ⟨w.toNat, by omega⟩
  unfold cuC
  rw [Int.toNat_natCast]
  have hn5 := h.1.2.1.1.2
  rcases ho with rfl | rfl
  · rw [if_pos rfl, cut_0 q]
    generalize mw S 0 0 0 = S at h0
    obtain ⟨-, g2, g1, gtr, grg, gpr, gvf, gcu⟩ := h0.1
    obtain ⟨⟨a0, a1, a3, a4⟩, ⟨b6, b7, b9⟩, c⟩ := gpr m (by omega)
    have hk : ∀ k, k ≠ 26 → mw S 26 (m : Int) 0 k = S k := fun k a => mw_ne k a
    have hC : ∀ k, k ≠ 24 + m → mw C (24 + m) 0 0 k = C k := fun k a => mw_ne k a
    refine ⟨TS_gen h0.1 (pl2.of fun k _ _ => hk k (by omega)) (SCH_k g1 fun k _ _ => hk k (by omega)) (by rw [hC 0 (by omega)]) (hk 15 (by decide)) ⟨hk 23 (by decide), hk 24 (by decide), hk 25 (by decide)⟩ (fun j hj => TR_k (hC _ (by omega)) (hC _ (by omega)) (fun k k1 k2 => by rw [hk k (by omega)]) (by unfold flS; rw [FL_k (hk 23 (by decide)) (hk 24 (by decide)) (hk 25 (by decide))]) (gtr j hj)) (RG_k grg (hk 16 (by decide)) (hk 17 (by decide)) (hk 18 (by decide))) (fun l hl => ?_) (fun l l0 l1 hl => ?_), SCH_k h0.2.1 (fun k _ _ => hk k (by omega)), SR_k h0.2.2 (hC 1 (by omega)) (hC 3 (by omega)) (hC 4 (by omega)) (hC 6 (by omega)) (by rw [hC 0 (by omega)]) (fun k _ _ => hk k (by omega)) (hk 13 (by decide))⟩
    · by_cases q2 : l = m
      · subst q2
        unfold PR
        have cc : ∀ e, e ≠ 0 → mw C (24 + l) 0 0 (24 + l) e = C (24 + l) e := fun e he => mw_e he
        rw [hk 27 (by decide), hk 28 (by decide), hk 29 (by decide), hk 30 (by decide), hC (24 + l + 6) (by omega), cc 1 (by decide), cc 3 (by decide), cc 4 (by decide), mw_s, mw_s]
        exact ⟨⟨rfl, a1, a3, a4⟩, ⟨Or.inl rfl, b7, b9⟩, c⟩
      · exact PR_k (hC _ (by omega)) (hC _ (by omega)) ⟨mw_e (by omega), by rw [hk 27 (by decide)], by rw [hk 29 (by decide)], by rw [hk 30 (by decide)], fun x _ _ => by rw [hk 28 (by decide)]⟩ (gpr l hl)
    · by_cases q2 : l = (m : Int)
      · subst q2
        rw [mw_s] at hl
        exact absurd rfl hl
      · rw [mw_e q2] at hl
        exact ⟨hl, by rw [hk 29 (by decide)]⟩
  · rw [if_neg (by decide), cut_1 q hcS, ← k23]
    generalize mw S 0 0 0 = S at h0
    obtain ⟨⟨g9, g15⟩, g2, g1, gtr, grg, gpr, gvf, gcu⟩ := h0.1
    obtain ⟨⟨a0, a1, a3, a4⟩, ⟨b6, b7, b9⟩, c⟩ := gpr m (by omega)
    have s1k : ∀ k, k ≠ 26 → mw S 26 (m : Int) 1 k = S k := fun k a => mw_ne k a
    have s1l : ∀ e, e ≠ (m : Int) → mw S 26 (m : Int) 1 26 e = S 26 e := fun e he => mw_e he
    have s1s : mw S 26 (m : Int) 1 26 (m : Int) = 1 := mw_s
    have e23 : (S 23 0).toNat = (mw S 26 (m : Int) 1 23 0).toNat := by rw [s1k 23 (by decide)]
    rw [e23]
    generalize mw S 26 (m : Int) 1 = V at s1k s1l s1s
    have flV : FL V = FL S := FL_k (s1k 23 (by decide)) (s1k 24 (by decide)) (s1k 25 (by decide))
    obtain ⟨r1, r2, r3, r4⟩ := rmv_ok (pr := hitP V (m : Int)) (V 23 0).toNat V (by rw [s1k 23 (by decide)]; exact gvf.1) (by rw [FL_len]; exact Nat.le_refl _)
    have ht : (FL V).take (V 23 0).toNat = FL V := List.take_of_length_le (by rw [FL_len]; exact Nat.le_refl _)
    have hd : (FL V).drop (V 23 0).toNat = [] := List.drop_eq_nil_of_le (by rw [FL_len]; exact Nat.le_refl _)
    rw [ht, hd, List.append_nil] at r1
    rw [ht] at r3
    generalize rmv (hitP V (m : Int)) (V 23 0).toNat V = W at r1 r2 r3 r4
    have tk : ∀ k, k ≠ 20 → k ≠ 23 → k ≠ 24 → k ≠ 25 → k ≠ 26 → k ≠ 29 → mw W 29 (m : Int) 0 k = S k := fun k a b c d e f => by rw [mw_ne k f, r2 k a b c d, s1k k e]
    have t26 : mw W 29 (m : Int) 0 26 = V 26 := by rw [mw_ne 26 (by decide), r2 26 (by decide) (by decide) (by decide) (by decide)]
    have t29 : ∀ e, e ≠ (m : Int) → mw W 29 (m : Int) 0 29 e = S 29 e := fun e he => by rw [mw_e he, r2 29 (by decide) (by decide) (by decide) (by decide), s1k 29 (by decide)]
    have t29s : mw W 29 (m : Int) 0 29 (m : Int) = 0 := mw_s
    have t20 : ∀ i, mw W 29 (m : Int) 0 20 i = S 20 i + (((flS S i).countP (fun s => hitP V (m : Int) (i, s)) : Nat) : Int) := fun i => by
      rw [mw_k (by decide), r3 i, cnt_i, s1k 20 (by decide), flV]
      rfl
    have t23 : 0 ≤ mw W 29 (m : Int) 0 23 0 := by rw [mw_k (by decide)]; exact r4
    have flT : FL (mw W 29 (m : Int) 0) = (FL S).filter (fun x => !hitP V (m : Int) x) := by
      rw [FL_k (mw_ne 23 (by decide)) (mw_ne 24 (by decide)) (mw_ne 25 (by decide)), r1, flV]
    have fsT : ∀ i, flS (mw W 29 (m : Int) 0) i = (flS S i).filter (fun s => !hitP V (m : Int) (i, s)) := fun i => by
      unfold flS
      rw [flT, flt_i]
    generalize mw W 29 (m : Int) 0 = T at tk t26 t29 t29s t20 t23 flT fsT ⊢
    have plT : pl2 S T := pl2.of fun k _ _ => tk k (by omega) (by omega) (by omega) (by omega) (by omega) (by omega)
    have plV : pl2 V T := pl2.of fun k _ _ => by rw [tk k (by omega) (by omega) (by omega) (by omega) (by omega) (by omega), s1k k (by omega)]
    have hsV : SCH V 2 n Q := SCH_k g2 (fun r _ _ => s1k r (by omega))
    -- the class
    have c1 : ∀ k, k ≠ 24 + m → mw C (24 + m) 0 1 k = C k := fun k a => mw_ne k a
    have c1e : ∀ e, e ≠ 0 → mw C (24 + m) 0 1 (24 + m) e = C (24 + m) e := fun e he => mw_e he
    have c1s : mw C (24 + m) 0 1 (24 + m) 0 = 1 := mw_s
    unfold laC
    generalize mw C (24 + m) 0 1 = C1 at c1 c1e c1s ⊢
    have c19 : C1 0 9 = C 0 9 := by rw [c1 0 (by omega)]
    rw [c19]
    have lk : ∀ k, (k < 13 ∨ 23 ≤ k) → loA n.toNat Q (m : Int) (C 0 9) C1 k = C1 k := fun k hk => loA_k (by omega)
    have dk : ∀ k, (k < 13 ∨ 23 ≤ k) → k ≠ 24 + m → mw (loA n.toNat Q (m : Int) (C 0 9) C1) (24 + m) 3 0 k = C k := fun k hk a => by rw [mw_ne k a, lk k hk, c1 k a]
    refine ⟨⟨⟨by rw [dk 0 (by omega) (by omega), tk 15 (by decide) (by decide) (by decide) (by decide) (by decide) (by decide)]; exact g9, by rw [tk 15 (by decide) (by decide) (by decide) (by decide) (by decide) (by decide)]; exact g15⟩, pl2_sch plT g2, SCH_k g1 (fun k _ _ => tk k (by omega) (by omega) (by omega) (by omega) (by omega) (by omega)), fun i hi => ?_, RG_k grg (tk 16 (by decide) (by decide) (by decide) (by decide) (by decide) (by decide)) (tk 17 (by decide) (by decide) (by decide) (by decide) (by decide) (by decide)) (tk 18 (by decide) (by decide) (by decide) (by decide) (by decide) (by decide)), fun l hl => ?_, ⟨t23, fun x hx => ?_, fun i => by rw [fsT]; exact gap_flt (gvf.2.2 i)⟩, fun l l0 l1 hl => ?_⟩, SCH_k h0.2.1 (fun k _ _ => tk k (by omega) (by omega) (by omega) (by omega) (by omega) (by omega)), SR_k h0.2.2 (dk 1 (by omega) (by omega)) (dk 3 (by omega) (by omega)) (dk 4 (by omega) (by omega)) (dk 6 (by omega) (by omega)) (by rw [dk 0 (by omega) (by omega)]) (fun k _ _ => tk k (by omega) (by omega) (by omega) (by omega) (by omega) (by omega)) (tk 13 (by decide) (by decide) (by decide) (by decide) (by decide) (by decide))⟩
    · have hi5 : i < 5 := by omega
      have hin : i < n.toNat := by omega
      have hp := hsV.2.2.1 i hi
      rw [show (5 * 2 + (i : Int)) = 10 + (i : Int) by omega, show (15 * 2 + 3 * (i : Int)) = 30 + 3 * (i : Int) by omega] at hp
      obtain ⟨e1, e2⟩ := itT_in (f := fun T i => loF T i (Q i) (m : Int) (C 0 9)) (fun _ _ _ h1 h2 => loF_k h1 h2) C1 hi5 hin (by omega)
      have e1 : loA n.toNat Q (m : Int) (C 0 9) C1 (13 + i) = loF (itN i (fun T i => loF T i (Q i) (m : Int) (C 0 9)) C1) i (Q i) (m : Int) (C 0 9) (13 + i) := e1
      have e2 : loA n.toNat Q (m : Int) (C 0 9) C1 (13 + i + 5) = loF (itN i (fun T i => loF T i (Q i) (m : Int) (C 0 9)) C1) i (Q i) (m : Int) (C 0 9) (13 + i + 5) := e2
      have b1 : itN i (fun T i => loF T i (Q i) (m : Int) (C 0 9)) C1 (13 + i) = C (13 + i) := (loA_k (by omega)).trans (c1 _ (by omega))
      have b2 : itN i (fun T i => loF T i (Q i) (m : Int) (C 0 9)) C1 (13 + i + 5) = C (13 + i + 5) := (loA_k (by omega)).trans (c1 _ (by omega))
      generalize itN i (fun T i => loF T i (Q i) (m : Int) (C 0 9)) C1 = E at e1 e2 b1 b2
      obtain ⟨t1, t2, t3, t5, t6, t7, t8, t4, t9⟩ := gtr i hi
      obtain ⟨m1, m2, m3, m4⟩ := loF_lst (C := E) (i := i) (P := Q i) (w := (m : Int)) (t := C 0 9) (by rw [b1]; exact t4)
      have hH : (fun s => decide (hopF (Q i) (m : Int) ≠ -1) && hitC (Q i) (hopF (Q i) (m : Int)) (C 0 9) s) = fun s => hitP V (m : Int) ((i : Int), s) := funext fun s => by
        rw [g9, ← s1k 15 (by decide)]
        exact hit_eq hp
      have hH2 : (fun s => !(decide (hopF (Q i) (m : Int) ≠ -1) && hitC (Q i) (hopF (Q i) (m : Int)) (C 0 9) s)) = fun s => !hitP V (m : Int) ((i : Int), s) := funext fun s => by
        rw [← congrFun hH s]
      have hsl : stL E i = flS S (i : Int) := (stL_k b1 b2).trans t9
      rw [hH2, hsl] at m1
      rw [hH, hsl, b1] at m3
      rw [b1] at m4
      have d1 : mw (loA n.toNat Q (m : Int) (C 0 9) C1) (24 + m) 3 0 (13 + i) = loF E i (Q i) (m : Int) (C 0 9) (13 + i) := (mw_ne _ (by omega)).trans e1
      have d2 : mw (loA n.toNat Q (m : Int) (C 0 9) C1) (24 + m) 3 0 (13 + i + 5) = loF E i (Q i) (m : Int) (C 0 9) (13 + i + 5) := (mw_ne _ (by omega)).trans e2
      unfold TR
      rw [stL_k (C := loF E i (Q i) (m : Int) (C 0 9)) d1 d2, d1, m1, m3, m4 1 (by decide) (by decide), m4 2 (by decide) (by decide), m4 3 (by decide) (by decide), m4 5 (by decide) (by decide), m4 7 (by decide) (by decide), m4 8 (by decide) (by decide), t20, fsT, tk 16 (by decide) (by decide) (by decide) (by decide) (by decide) (by decide), tk 17 (by decide) (by decide) (by decide) (by decide) (by decide) (by decide), tk 18 (by decide) (by decide) (by decide) (by decide) (by decide) (by decide), tk 19 (by decide) (by decide) (by decide) (by decide) (by decide) (by decide), tk 21 (by decide) (by decide) (by decide) (by decide) (by decide) (by decide), tk 22 (by decide) (by decide) (by decide) (by decide) (by decide) (by decide), t6]
      exact ⟨t1, t2, t3, t5, rfl, t7, t8, m2, rfl⟩
    · by_cases q2 : l = m
      · subst q2
        unfold PR
        rw [mw_e (e := 3) (b := 0) (by decide), mw_e (e := 3) (b := 1) (by decide), mw_s, mw_e (e := 3) (b := 4) (by decide), lk _ (by omega), c1s, c1e 1 (by decide), c1e 4 (by decide), mw_ne (24 + l + 6) (by omega), lk _ (by omega), c1 _ (by omega), t26, s1s, t29s, tk 27 (by decide) (by decide) (by decide) (by decide) (by decide) (by decide), tk 28 (by decide) (by decide) (by decide) (by decide) (by decide) (by decide), tk 30 (by decide) (by decide) (by decide) (by decide) (by decide) (by decide)]
        exact ⟨⟨rfl, a1, rfl, a4⟩, ⟨Or.inr rfl, b7, by decide⟩, c⟩
      · exact PR_k (dk _ (by omega) (by omega)) (dk _ (by omega) (by omega)) ⟨by rw [t26, s1l _ (by omega)], by rw [tk 27 (by decide) (by decide) (by decide) (by decide) (by decide) (by decide)], t29 _ (by omega), by rw [tk 30 (by decide) (by decide) (by decide) (by decide) (by decide) (by decide)], fun x _ _ => by rw [tk 28 (by decide) (by decide) (by decide) (by decide) (by decide) (by decide)]⟩ (gpr l hl)
    · rw [flT] at hx
      obtain ⟨a, b, c, d⟩ := gvf.2.1 x (List.mem_filter.mp hx).1
      rw [tk 15 (by decide) (by decide) (by decide) (by decide) (by decide) (by decide), pl2_lat plT a.1, tk 10 (by decide) (by decide) (by decide) (by decide) (by decide) (by decide), tk 8 (by decide) (by decide) (by decide) (by decide) (by decide) (by decide)]
      exact ⟨a, b, c, d⟩
    · by_cases q2 : l = (m : Int)
      · subst q2
        refine ⟨t29s, fun x hx => ?_⟩
        rw [flT] at hx
        obtain ⟨x1, x2⟩ := List.mem_filter.mp hx
        rw [pl2_hit plV (by rw [tk 15 (by decide) (by decide) (by decide) (by decide) (by decide) (by decide), s1k 15 (by decide)]) (gvf.2.1 x x1).1.1]
        simpa using x2
      · rw [t26, s1l _ q2] at hl
        obtain ⟨x1, x2⟩ := gcu l l0 l1 hl
        refine ⟨by rw [t29 _ q2]; exact x1, fun x hx => ?_⟩
        rw [flT] at hx
        have hx := (List.mem_filter.mp hx).1
        rw [pl2_hit plT (by rw [tk 15 (by decide) (by decide) (by decide) (by decide) (by decide) (by decide)]) (gvf.2.1 x hx).1.1]
        exact x2 x hx
theorem fstN_spec {f : Nat → Bool} : ∀ n : Nat, (∃ m, m < n ∧ fstN n f = (m : Int) ∧ f m = true) ∨ (fstN n f = -1 ∧ ∀ k, k < n → f k = false)
  | 0 => Or.inr ⟨rfl, fun k hk => absurd hk (Nat.not_lt_zero k)⟩
  | n + 1 => by
    have e : fstN (n + 1) f = if 0 ≤ fstN n f then fstN n f else if f n = true then (n : Int) else -1 := rfl
    rcases fstN_spec (f := f) n with ⟨m, h1, h2, h3⟩ | ⟨h1, h2⟩
    · exact Or.inl ⟨m, by omega, by rw [e, if_pos (by omega)]; exact h2, h3⟩
    · cases q : f n with
      | true => exact Or.inl ⟨n, Nat.lt_succ_self n, by rw [e, if_neg (by omega), q, if_pos rfl], q⟩
      | false => exact Or.inr ⟨by rw [e, if_neg (by omega), q, if_neg (by decide)], fun k hk => by
          rcases Nat.lt_succ_iff_lt_or_eq.mp hk with z | z
          · exact h2 k z
          · subst z; exact q⟩
/-- a frame on a link is in its stream's spans -/
theorem on_spn {S : mS} {n : Int} {Q : Nat → mS} (h2 : SCH S 2 n Q) (ht : 0 ≤ S 15 0 ∧ S 15 0 ≤ 1000000) {i : Nat} (hi : (i : Int) < n) {s w : Int} (hs : (s - S 10 (10 + (i : Int))) % S 8 (10 + (i : Int)) = 0) (h : onP S w ((i : Int), s) = true) : spn (Q i) w (S 15 0 % 32).toNat := by
  have hp := h2.2.2.1 i hi
  rw [show (5 * 2 + (i : Int)) = 10 + (i : Int) by omega, show (15 * 2 + 3 * (i : Int)) = 30 + 3 * (i : Int) by omega] at hp
  unfold onP at h
  rw [anyN_iff] at h
  obtain ⟨j, j1, j2⟩ := h
  have hjl : j ≤ laF S (30 + 3 * (i : Int)) := by have : j < laF S (30 + 3 * (i : Int)) + 1 := j1; omega
  rw [Bool.and_eq_true, Bool.and_eq_true, decide_eq_true_eq, decide_eq_true_eq, decide_eq_true_eq] at j2
  obtain ⟨⟨k1, k2⟩, k3⟩ := j2
  have k1 : S 11 (30 + 3 * (i : Int) + (j : Int)) = w := k1
  have k2 : s + binF S (10 + (i : Int)) (30 + 3 * (i : Int)) j < S 15 0 := k2
  have k3 : S 15 0 < s + binF S (10 + (i : Int)) (30 + 3 * (i : Int)) j + S 9 (10 + (i : Int)) := k3
  have hp0 := id hp
  obtain ⟨⟨h0, h1, h7, h8⟩, hj, hd, hm, hdis⟩ := hp0
  have hb := binF_r hm j (by have := laF_le S (30 + 3 * (i : Int)); omega)
  have hla := laF_le S (30 + 3 * (i : Int))
  obtain ⟨g3, g4, g5, g6⟩ := hj j hjl
  obtain ⟨m8, m9, m10, -⟩ := hm
  refine ⟨j, by omega, by rw [g3]; exact k1, ?_⟩
  obtain ⟨o, ho⟩ : ∃ o : Nat, Q i 7 0 = (o : Int) := ⟨(Q i 7 0).toNat, by omega⟩
  rw [ho, spW_sf (b := binF S (10 + (i : Int)) (30 + 3 * (i : Int)) j) (by omega) m8 m9 g6 (by omega) (by omega), show (((S 15 0 % 32).toNat : Nat) : Int) = S 15 0 % 32 by omega]
  have hoo : (o : Int) = S 10 (10 + (i : Int)) := by rw [← ho, h7]
  rcases m8 with q | q | q <;> rw [q] at hs m10 ⊢ <;> omega
theorem sm_link {C S : mS} {n4 na n : Int} {Q4 Qa Q : Nat → mS} (h : SM C S n4 Q4 na Qa n Q) (ht : S 15 0 ≤ 1000000) {w u : Int} (q : thL w u = 0) : liC C n Q w u = linkR S w u := by
  have hr : (0 ≤ w ∧ w < 6) ∧ (0 ≤ u ∧ u ≤ 3) := by
    unfold thL at q
    split at q
    · omega
    · rename_i z
      by_cases z2 : 0 ≤ w ∧ w < 6
      · exact ⟨z2, by omega⟩
      · exact absurd (Or.inl z2) z
  obtain ⟨⟨g9, g15⟩, g2, g1, gtr, grg, gpr, gvf, gcu⟩ := h.1
  obtain ⟨m, rfl⟩ : ∃ m : Nat, w = (m : Int) := ⟨w.toNat, by omega⟩
  obtain ⟨⟨a0, a1, a3, a4⟩, ⟨b6, b7, b9⟩, c⟩ := gpr m (by omega)
  have hn5 := g2.1
  unfold liC linkR
  rw [if_pos q, Int.toNat_natCast, a0, a1, a4]
  have key : wio C n Q m = onF S (m : Int) := by
    unfold wio onF
    rw [a3]
    have hof : ∀ i : Nat, (i : Int) < n → hfF C i (Q i) (m : Int) (C 0 9) = (flS S (i : Int)).any (fun s => onP S (m : Int) ((i : Int), s)) := fun i hi => by
      have hp := g2.2.2.1 i hi
      rw [show (5 * 2 + (i : Int)) = 10 + (i : Int) by omega, show (15 * 2 + 3 * (i : Int)) = 30 + 3 * (i : Int) by omega] at hp
      rw [g9, on_eq hp, (gtr i hi).2.2.2.2.2.2.2.2]
    have hsp : ∀ i : Nat, (i : Int) < n → hfF C i (Q i) (m : Int) (C 0 9) = true → spn (Q i) (m : Int) (S 15 0 % 32).toNat := fun i hi hh => by
      rw [hof i hi, List.any_eq_true] at hh
      obtain ⟨s, s1, s2⟩ := hh
      exact on_spn g2 ⟨g15, ht⟩ hi (gvf.2.1 _ (flS_mem.mp s1)).2.2.1 s2
    rcases fstN_spec (f := onFr S (m : Int)) (S 23 0).toNat with ⟨f, f1, f2, f3⟩ | ⟨f1, f2⟩
    · have hx : (S 24 (f : Int), S 25 (f : Int)) ∈ FL S := VF_mem gvf (by omega) (by omega)
      have hx1 := (gvf.2.1 _ hx).1
      have hx1 : 0 ≤ S 24 (f : Int) ∧ S 24 (f : Int) < n := hx1
      obtain ⟨i, hi⟩ : ∃ i : Nat, S 24 (f : Int) = (i : Int) := ⟨(S 24 (f : Int)).toNat, by omega⟩
      have f3 : onP S (m : Int) (S 24 (f : Int), S 25 (f : Int)) = true := f3
      rw [hi] at hx f3 hx1
      have hii : hfF C i (Q i) (m : Int) (C 0 9) = true := by
        rw [hof i hx1.2]
        exact List.any_eq_true.mpr ⟨_, flS_mem.mpr hx, f3⟩
      have e : fstN n.toNat (fun i => hfF C i (Q i) (m : Int) (C 0 9)) = (i : Int) := fstN_hit (f := fun i => hfF C i (Q i) (m : Int) (C 0 9)) (fun k hk => by
        cases z : hfF C k (Q k) (m : Int) (C 0 9) with
        | false => rfl
        | true => exact absurd ⟨hsp k (by omega) z, hsp i hx1.2 hii⟩ (g2.2.2.2 k i hk (by omega) (m : Int) (by omega) (by omega) _ (by omega))) hii (by omega)
      rw [e, f2, hi, if_pos (by omega), if_pos (by omega)]
    · have e : fstN n.toNat (fun i => hfF C i (Q i) (m : Int) (C 0 9)) = -1 := fstN_none (f := fun i => hfF C i (Q i) (m : Int) (C 0 9)) (fun i hi => by
        cases z : hfF C i (Q i) (m : Int) (C 0 9) with
        | false => rfl
        | true =>
          rw [hof i (by omega), List.any_eq_true] at z
          obtain ⟨s, s1, s2⟩ := z
          obtain ⟨f, h3, h4⟩ := List.mem_map.mp (flS_mem.mp s1)
          have := f2 f (List.mem_range.mp h3)
          have this : onP S (m : Int) (S 24 (f : Int), S 25 (f : Int)) = false := this
          rw [show (S 24 (f : Int), S 25 (f : Int)) = ((i : Int), s) from h4, s2] at this
          cases this)
      rw [e, f1, if_neg (show ¬ (0 : Int) ≤ -1 by decide), if_neg (show ¬ (0 : Int) ≤ -1 by decide)]
  rw [key]
