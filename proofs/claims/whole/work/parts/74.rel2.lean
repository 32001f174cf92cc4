/-! talk, unblock, babble, told -/
theorem mw_same {S : mS} {k : Nat} {e v : Int} (h : S k e = v) : mw S k e v = S := funext fun a => funext fun b => by
  rw [mw_at]
  split
  · rename_i q
    rw [q.1, q.2, h]
  · rfl
theorem isTk_n {C S : mS} {n4 na n : Int} {Q4 Qa Q : Nat → mS} (h : SM C S n4 Q4 na Qa n Q) (i : Int) : isTk S i = decide (0 ≤ i ∧ i < n) := by unfold isTk; rw [h.1.2.1.2.1]
theorem sm_talk {C S : mS} {n4 na n : Int} {Q4 Qa Q : Nat → mS} (h : SM C S n4 Q4 na Qa n Q) {i on t : Int} (ho : on = 0 ∨ on = 1) : thKn n i t = thK S i t ∧ (thK S i t ≠ 0 → SM C (talkS S i on t) n4 Q4 na Qa n Q) ∧ (thK S i t = 0 → SM (mw (mw C (13 + i.toNat) 1 on) (13 + i.toNat) 2 t) (talkS S i on t) n4 Q4 na Qa n Q) := by
  have e : thKn n i t = thK S i t := by
    unfold thKn thK
    rw [isTk_n h]
    by_cases q : 0 ≤ i ∧ i < n
    · rw [decide_eq_true q, if_neg (fun z => z q), if_neg (show ¬ (true = false) by decide)]
    · rw [decide_eq_false q, if_pos q, if_pos rfl]
  unfold talkS
  refine ⟨e, fun q => by rw [if_neg q]; exact SM_0 h _, fun q => ?_⟩
  have hr : (0 ≤ i ∧ i < n) ∧ (0 ≤ t ∧ t ≤ 7) := by rw [← e] at q; unfold thKn at q; split at q <;> (try split at q) <;> omega
  rw [if_pos q]
  have h0 := SM_0 h (thK S i t)
  generalize mw S 0 0 (thK S i t) = S at h0
  obtain ⟨m, rfl⟩ : ∃ m : Nat, i = (m : Int) := ⟨i.toNat, by omega⟩
  have hn5 := h.1.2.1.1.2
  have hk : ∀ k, k ≠ 16 → k ≠ 17 → mw (mw S 16 (m : Int) (if on = 0 then 1 else 0)) 17 (m : Int) t k = S k := fun k a b => by rw [mw_ne k b, mw_ne k a]
  have hC : ∀ k, k ≠ 13 + m → mw (mw C (13 + m) 1 on) (13 + m) 2 t k = C k := fun k a => by rw [mw_ne k a, mw_ne k a]
  obtain ⟨-, g2, g1, gtr, grg, gpr, gvf, gcu⟩ := h0.1
  rw [Int.toNat_natCast]
  refine ⟨TS_gen h0.1 (pl2.of fun k _ _ => hk k (by omega) (by omega)) (SCH_k g1 fun k _ _ => hk k (by omega) (by omega)) (by rw [hC 0 (by omega)]) (hk 15 (by decide) (by decide)) ⟨hk 23 (by decide) (by decide), hk 24 (by decide) (by decide), hk 25 (by decide) (by decide)⟩ (fun j hj => ?_) (fun j j0 j1 => ?_) (fun l hl => PR_k (hC _ (by omega)) (hC _ (by omega)) (plq.of fun k hk2 => hk k (by omega) (by omega)) (gpr l hl)) (fun l _ _ hl => ⟨by rw [← hk 26 (by decide) (by decide)]; exact hl, by rw [hk 29 (by decide) (by decide)]⟩), SCH_k h0.2.1 (fun k _ _ => hk k (by omega) (by omega)), SR_k h0.2.2 (hC 1 (by omega)) (hC 3 (by omega)) (hC 4 (by omega)) (hC 6 (by omega)) (by rw [hC 0 (by omega)]) (fun k _ _ => hk k (by omega) (by omega)) (hk 13 (by decide) (by decide))⟩
  · have fs : ∀ i, flS (mw (mw S 16 (m : Int) (if on = 0 then 1 else 0)) 17 (m : Int) t) i = flS S i := fun i => by unfold flS; rw [FL_k (hk 23 (by decide) (by decide)) (hk 24 (by decide) (by decide)) (hk 25 (by decide) (by decide))]
    by_cases q2 : j = m
    · subst q2
      obtain ⟨t1, t2, t3, t5, t6, t7, t8, t4, t9⟩ := gtr j hj
      have c : ∀ e, e ≠ 1 → e ≠ 2 → mw (mw C (13 + j) 1 on) (13 + j) 2 t (13 + j) e = C (13 + j) e := fun e a b => by rw [mw_e b, mw_e a]
      have c1 : mw (mw C (13 + j) 1 on) (13 + j) 2 t (13 + j) 1 = on := by rw [mw_e (by decide), mw_s]
      have c2 : mw (mw C (13 + j) 1 on) (13 + j) 2 t (13 + j) 2 = t := mw_s
      have s16 : mw (mw S 16 (j : Int) (if on = 0 then 1 else 0)) 17 (j : Int) t 16 (j : Int) = if on = 0 then 1 else 0 := by rw [mw_k (by decide), mw_s]
      have s17 : mw (mw S 16 (j : Int) (if on = 0 then 1 else 0)) 17 (j : Int) t 17 (j : Int) = t := mw_s
      have sl : stL (mw (mw C (13 + j) 1 on) (13 + j) 2 t) j = stL C j := by unfold stL; rw [c 4 (by decide) (by decide), hC (13 + j + 5) (by omega)]
      unfold TR
      rw [sl, fs, c1, c2, c 3 (by decide) (by decide), c 5 (by decide) (by decide), c 6 (by decide) (by decide), c 7 (by decide) (by decide), c 8 (by decide) (by decide), c 4 (by decide) (by decide), s16, s17, hk 18 (by decide) (by decide), hk 19 (by decide) (by decide), hk 20 (by decide) (by decide), hk 21 (by decide) (by decide), hk 22 (by decide) (by decide)]
      refine ⟨?_, rfl, t3, t5, t6, t7, t8, t4, t9⟩
      rcases ho with rfl | rfl <;> decide
    · exact TR_k (hC _ (by omega)) (hC _ (by omega)) (fun k k1 k2 => by rw [mw_e (by omega), mw_e (by omega)]) (fs _) (gtr j hj)
  · have gr := grg j j0 j1
    rw [hk 18 (by decide) (by decide)]
    by_cases q2 : j = (m : Int)
    · subst q2
      rw [mw_s, mw_k (by decide), mw_s]
      refine ⟨hr.2, ?_, gr.2.2⟩
      split
      · exact Or.inr rfl
      · exact Or.inl rfl
    · rw [mw_e q2, mw_k (by decide), mw_k (by decide), mw_e q2]
      exact gr
theorem sm_unblock {C S : mS} {n4 na n : Int} {Q4 Qa Q : Nat → mS} (h : SM C S n4 Q4 na Qa n Q) (i : Int) : thUn n i = thU S i ∧ (thU S i ≠ 0 → SM C (unbS S i) n4 Q4 na Qa n Q) ∧ (thU S i = 0 → SM (mw C (13 + i.toNat) 3 0) (unbS S i) n4 Q4 na Qa n Q ∧ decide (C (13 + i.toNat) 3 ≠ 0) = unbB S i) := by
  have e : thUn n i = thU S i := by
    unfold thUn thU
    rw [isTk_n h]
    by_cases q : 0 ≤ i ∧ i < n
    · rw [decide_eq_true q, if_pos q, if_pos rfl]
    · rw [decide_eq_false q, if_neg q, if_neg (by decide)]
  refine ⟨e, fun q => ?_, fun q => ?_⟩
  · unfold unbS unbB
    rw [decide_eq_false q, Bool.false_and, if_neg (by decide)]
    exact SM_0 h _
  have hr : 0 ≤ i ∧ i < n := by rw [← e] at q; unfold thUn at q; split at q <;> omega
  have h0 := SM_0 h (thU S i)
  have s18 : mw S 0 0 (thU S i) 18 = S 18 := mw_ne 18 (by decide)
  have eS : unbS S i = mw (mw S 0 0 (thU S i)) 18 i 0 := by
    unfold unbS unbB
    rw [decide_eq_true q, Bool.true_and]
    by_cases q2 : S 18 i = 0
    · rw [decide_eq_false (fun z => z q2), if_neg (by decide)]
      exact (mw_same (by rw [s18]; exact q2)).symm
    · rw [decide_eq_true q2, if_pos rfl]
  have eB : unbB S i = decide (S 18 i ≠ 0) := by unfold unbB; rw [decide_eq_true q, Bool.true_and]
  rw [eS, eB, ← s18]
  clear eS eB
  generalize mw S 0 0 (thU S i) = S at h0
  obtain ⟨m, rfl⟩ : ∃ m : Nat, i = (m : Int) := ⟨i.toNat, by omega⟩
  have hn5 := h.1.2.1.1.2
  have hk : ∀ k, k ≠ 18 → mw S 18 (m : Int) 0 k = S k := fun k a => mw_ne k a
  have hC : ∀ k, k ≠ 13 + m → mw C (13 + m) 3 0 k = C k := fun k a => mw_ne k a
  obtain ⟨-, g2, g1, gtr, grg, gpr, gvf, gcu⟩ := h0.1
  rw [Int.toNat_natCast]
  refine ⟨⟨TS_gen h0.1 (pl2.of fun k _ _ => hk k (by omega)) (SCH_k g1 fun k _ _ => hk k (by omega)) (by rw [hC 0 (by omega)]) (hk 15 (by decide)) ⟨hk 23 (by decide), hk 24 (by decide), hk 25 (by decide)⟩ (fun j hj => ?_) (fun j j0 j1 => ?_) (fun l hl => PR_k (hC _ (by omega)) (hC _ (by omega)) (plq.of fun k hk2 => hk k (by omega)) (gpr l hl)) (fun l _ _ hl => ⟨by rw [← hk 26 (by decide)]; exact hl, by rw [hk 29 (by decide)]⟩), SCH_k h0.2.1 (fun k _ _ => hk k (by omega)), SR_k h0.2.2 (hC 1 (by omega)) (hC 3 (by omega)) (hC 4 (by omega)) (hC 6 (by omega)) (by rw [hC 0 (by omega)]) (fun k _ _ => hk k (by omega)) (hk 13 (by decide))⟩, by rw [(gtr m hr.2).2.2.1]⟩
  · have fs : ∀ i, flS (mw S 18 (m : Int) 0) i = flS S i := fun i => by unfold flS; rw [FL_k (hk 23 (by decide)) (hk 24 (by decide)) (hk 25 (by decide))]
    by_cases q2 : j = m
    · subst q2
      obtain ⟨t1, t2, t3, t5, t6, t7, t8, t4, t9⟩ := gtr j hj
      have c : ∀ e, e ≠ 3 → mw C (13 + j) 3 0 (13 + j) e = C (13 + j) e := fun e a => by rw [mw_e a]
      have sl : stL (mw C (13 + j) 3 0) j = stL C j := by unfold stL; rw [c 4 (by decide), hC (13 + j + 5) (by omega)]
      unfold TR
      rw [sl, fs, mw_s, mw_s, c 1 (by decide), c 2 (by decide), c 5 (by decide), c 6 (by decide), c 7 (by decide), c 8 (by decide), c 4 (by decide), hk 16 (by decide), hk 17 (by decide), hk 19 (by decide), hk 20 (by decide), hk 21 (by decide), hk 22 (by decide)]
      exact ⟨t1, t2, rfl, t5, t6, t7, t8, t4, t9⟩
    · exact TR_k (hC _ (by omega)) (hC _ (by omega)) (fun k k1 k2 => by rw [mw_e (by omega)]) (fs _) (gtr j hj)
  · have gr := grg j j0 j1
    rw [hk 16 (by decide), hk 17 (by decide)]
    by_cases q2 : j = (m : Int)
    · subst q2
      rw [mw_s]
      exact ⟨gr.1, gr.2.1, Or.inl rfl⟩
    · rw [mw_e q2]
      exact gr
theorem sm_babble {C S : mS} {n4 na n : Int} {Q4 Qa Q : Nat → mS} (h : SM C S n4 Q4 na Qa n Q) (w t : Int) : thBn (C (24 + w.toNat) 1) w t = thB S w t ∧ (thB S w t ≠ 0 → SM C (babS S w t) n4 Q4 na Qa n Q) ∧ (thB S w t = 0 → SM (apF C w.toNat t) (babS S w t) n4 Q4 na Qa n Q ∧ C (24 + w.toNat) 1 + 1 = babR S w t) := by
  obtain ⟨-, -, -, -, -, hpr, -⟩ := h.1
  have e : thBn (C (24 + w.toNat) 1) w t = thB S w t := by
    unfold thBn thB
    by_cases q : 0 ≤ w ∧ w < 6
    · have := (hpr w.toNat (by omega)).1.2.1
      rw [this, show ((w.toNat : Nat) : Int) = w by omega]
    · rw [if_pos q, if_pos q]
  unfold babS
  refine ⟨e, fun q => by rw [if_neg q]; exact SM_0 h _, fun q => ?_⟩
  rw [if_pos q]
  have hr : (0 ≤ w ∧ w < 6) ∧ (1 ≤ t ∧ t ≤ 8) ∧ S 27 w ≠ 4 := by unfold thB at q; split at q <;> (try split at q) <;> (try split at q) <;> omega
  obtain ⟨m, rfl⟩ : ∃ m : Nat, w = (m : Int) := ⟨w.toNat, by omega⟩
  have h27 : mw S 0 0 (thB S (m : Int) t) 27 (m : Int) = S 27 (m : Int) := mw_k (by decide)
  have h0 := SM_0 h (thB S (m : Int) t)
  unfold babR
  rw [if_pos q, Int.toNat_natCast, ← h27]
  rw [← h27] at hr
  generalize mw S 0 0 (thB S (m : Int) t) = S at h0 hr
  have k28 : mw S 28 (4 * (m : Int) + S 27 (m : Int)) t 27 (m : Int) = S 27 (m : Int) := mw_k (by decide)
  rw [k28]
  obtain ⟨-, g2, g1, gtr, grg, gpr, gvf, gcu⟩ := h0.1
  obtain ⟨⟨a0, a1, a3, a4⟩, ⟨b6, b7, b9⟩, c⟩ := gpr m (by omega)
  have hk : ∀ k, k ≠ 28 → k ≠ 27 → mw (mw S 28 (4 * (m : Int) + S 27 (m : Int)) t) 27 (m : Int) (S 27 (m : Int) + 1) k = S k := fun k a b => by rw [mw_ne k b, mw_ne k a]
  unfold apF
  rw [if_pos (by omega), a1]
  have hC : ∀ k, k ≠ 24 + m → k ≠ 24 + m + 6 → mw (mw C (24 + m + 6) (S 27 (m : Int)) t) (24 + m) 1 (S 27 (m : Int) + 1) k = C k := fun k a b => by rw [mw_ne k a, mw_ne k b]
  refine ⟨⟨TS_gen h0.1 (pl2.of fun k _ _ => hk k (by omega) (by omega)) (SCH_k g1 fun k _ _ => hk k (by omega) (by omega)) (by rw [hC 0 (by omega) (by omega)]) (hk 15 (by decide) (by decide)) ⟨hk 23 (by decide) (by decide), hk 24 (by decide) (by decide), hk 25 (by decide) (by decide)⟩ (fun j hj => TR_k (hC _ (by have := g2.1; omega) (by have := g2.1; omega)) (hC _ (by have := g2.1; omega) (by have := g2.1; omega)) (fun k k1 k2 => by rw [hk k (by omega) (by omega)]) (by unfold flS; rw [FL_k (hk 23 (by decide) (by decide)) (hk 24 (by decide) (by decide)) (hk 25 (by decide) (by decide))]) (gtr j hj)) (RG_k grg (hk 16 (by decide) (by decide)) (hk 17 (by decide) (by decide)) (hk 18 (by decide) (by decide))) (fun l hl => ?_) (fun l _ _ hl => ⟨by rw [← hk 26 (by decide) (by decide)]; exact hl, by rw [hk 29 (by decide) (by decide)]⟩), SCH_k h0.2.1 (fun k _ _ => hk k (by omega) (by omega)), SR_k h0.2.2 (hC 1 (by omega) (by omega)) (hC 3 (by omega) (by omega)) (hC 4 (by omega) (by omega)) (hC 6 (by omega) (by omega)) (by rw [hC 0 (by omega) (by omega)]) (fun k _ _ => hk k (by omega) (by omega)) (hk 13 (by decide) (by decide))⟩, rfl⟩
  by_cases q2 : l = m
  · subst q2
    have cc : ∀ e, e ≠ 1 → mw (mw C (24 + l + 6) (S 27 (l : Int)) t) (24 + l) 1 (S 27 (l : Int) + 1) (24 + l) e = C (24 + l) e := fun e he => by rw [mw_e he, mw_k (by omega)]
    unfold PR
    rw [cc 0 (by decide), cc 3 (by decide), cc 4 (by decide), mw_s, mw_s, hk 26 (by decide) (by decide), hk 29 (by decide) (by decide), hk 30 (by decide) (by decide)]
    refine ⟨⟨a0, rfl, a3, a4⟩, ⟨b6, by omega, b9⟩, fun j j0 j1 => ?_⟩
    rw [mw_k (k := 24 + l) (by omega), mw_k (k := 27) (by decide)]
    by_cases q3 : j = S 27 (l : Int)
    · subst q3
      rw [mw_s, mw_s]
      exact ⟨rfl, hr.2.1⟩
    · rw [mw_e q3, mw_e (by omega)]
      exact c j j0 (by omega)
  · refine PR_k (hC _ (by omega) (by omega)) (hC _ (by omega) (by omega)) ⟨by rw [hk 26 (by decide) (by decide)], by rw [mw_e (by omega), mw_k (by decide)], by rw [hk 29 (by decide) (by decide)], by rw [hk 30 (by decide) (by decide)], fun x x0 x1 => ?_⟩ (gpr l hl)
    rw [mw_k (by decide), mw_e (by omega)]
theorem cnt_fl {S : mS} {i : Int} : ∀ n : Nat, cntN n (fun f => decide (S 24 (f : Int) = i)) = ((((List.range n).map (fun f : Nat => (S 24 (f : Int), S 25 (f : Int)))).filter (fun x => decide (x.1 = i))).length : Int)
  | 0 => rfl
  | n + 1 => by
    have ih := cnt_fl (S := S) (i := i) n
    rw [rg_s, List.filter_append, List.length_append, Int.natCast_add, ← ih]
    by_cases q : S 24 (n : Int) = i
    · have e1 : cntN (n + 1) (fun f => decide (S 24 (f : Int) = i)) = cntN n (fun f => decide (S 24 (f : Int) = i)) + 1 := if_pos (decide_eq_true q)
      rw [e1, List.filter_cons_of_pos (by simpa using q)]; rfl
    · have e1 : cntN (n + 1) (fun f => decide (S 24 (f : Int) = i)) = cntN n (fun f => decide (S 24 (f : Int) = i)) := if_neg (by simpa using q)
      rw [e1, List.filter_cons_of_neg (by simpa using q)]
      show _ = _ + ((0 : Nat) : Int)
      omega
theorem sm_told {C S : mS} {n4 na n : Int} {Q4 Qa Q : Nat → mS} (h : SM C S n4 Q4 na Qa n Q) (i u : Int) : thTon n i u = thTo S i u ∧ (thTo S i u = 0 → toC C i u = toldR S i u) := by
  have e : thTon n i u = thTo S i u := by
    unfold thTon thTo
    rw [isTk_n h]
    by_cases q : 0 ≤ i ∧ i < n
    · rw [decide_eq_true q]
      by_cases q2 : u < 0 ∨ 5 < u
      · rw [if_pos (Or.inr q2), if_pos (Or.inr q2)]
      · rw [if_neg (fun z => z.elim (fun a => a q) q2), if_neg (fun z => z.elim (fun a => by cases a) q2)]
    · rw [decide_eq_false q, if_pos (Or.inl q), if_pos (Or.inl rfl)]
  refine ⟨e, fun q => ?_⟩
  have hr : 0 ≤ i ∧ i < n := by
    rw [← e] at q
    unfold thTon at q
    split at q
    · omega
    · rename_i z
      exact Classical.not_not.mp (fun w => z (Or.inl w))
  obtain ⟨m, rfl⟩ : ∃ m : Nat, i = (m : Int) := ⟨i.toNat, by omega⟩
  obtain ⟨t1, t2, t3, t5, t6, t7, t8, t4, t9⟩ := h.1.2.2.2.1 m hr.2
  unfold toC toldR
  rw [if_pos q, Int.toNat_natCast, t3, t5, t6, t7, t8]
  have e0 : C (13 + m) 4 = onWayF S (m : Int) := by
    unfold onWayF
    rw [cnt_fl]
    have hl := stL_len (C := C) (i := m)
    rw [t9, flS_len] at hl
    have hl : ((FL S).filter (fun x => decide (x.1 = (m : Int)))).length = (C (13 + m) 4).toNat := hl
    unfold FL at hl
    rw [hl]
    omega
  rw [e0]
