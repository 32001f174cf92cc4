/-! the relation of both sides; the calls that change little -/
def pl2 (S T : mS) : Prop := T 7 2 = S 7 2 ∧ (∀ k, 8 ≤ k → k ≤ 10 → ∀ e, 10 ≤ e → T k e = S k e) ∧ ∀ k, 11 ≤ k → k ≤ 12 → ∀ e, 30 ≤ e → T k e = S k e
theorem pl2.of {S T : mS} (h : ∀ k, 7 ≤ k → k ≤ 12 → T k = S k) : pl2 S T := ⟨by rw [h 7 (by decide) (by decide)], fun k a b e _ => by rw [h k (by omega) (by omega)], fun k a b e _ => by rw [h k (by omega) (by omega)]⟩
theorem pl2_sch {S T : mS} {n : Int} {Q : Nat → mS} (hp : pl2 S T) (h : SCH S 2 n Q) : SCH T 2 n Q := ⟨h.1, by rw [hp.1]; exact h.2.1, fun i hi => PSR_k (hp.2.1 8 (by decide) (by decide) _ (by omega)) (hp.2.1 9 (by decide) (by decide) _ (by omega)) (hp.2.1 10 (by decide) (by decide) _ (by omega)) (fun j _ => hp.2.2 11 (by decide) (by decide) _ (by omega)) (fun j _ => hp.2.2 12 (by decide) (by decide) _ (by omega)) (h.2.2.1 i hi), h.2.2.2⟩
theorem pl2_bin {S T : mS} (hp : pl2 S T) {i : Int} (hi : 0 ≤ i) (j : Nat) : binF T (10 + i) (30 + 3 * i) j = binF S (10 + i) (30 + 3 * i) j := by
  induction j with
  | zero => rfl
  | succ j ih =>
    show binF T (10 + i) (30 + 3 * i) j + T 9 (10 + i) + T 12 (30 + 3 * i + (j : Int)) + 2 = binF S (10 + i) (30 + 3 * i) j + S 9 (10 + i) + S 12 (30 + 3 * i + (j : Int)) + 2
    rw [ih, hp.2.1 9 (by decide) (by decide) _ (by omega), hp.2.2 12 (by decide) (by decide) _ (by omega)]
theorem pl2_la {S T : mS} (hp : pl2 S T) {i : Int} (hi : 0 ≤ i) : laF T (30 + 3 * i) = laF S (30 + 3 * i) := by
  unfold laF
  rw [hp.2.2 11 (by decide) (by decide) _ (by omega), hp.2.2 11 (by decide) (by decide) _ (by omega)]
theorem pl2_lat {S T : mS} (hp : pl2 S T) {i : Int} (hi : 0 ≤ i) : latR T i = latR S i := by
  unfold latR
  rw [pl2_la hp hi, pl2_bin hp hi, hp.2.1 9 (by decide) (by decide) _ (by omega), hp.2.2 12 (by decide) (by decide) _ (by omega)]
theorem pl2_hit {S T : mS} (hp : pl2 S T) (h15 : T 15 0 = S 15 0) {x : Int × Int} (hx : 0 ≤ x.1) (l : Int) : hitP T l x = hitP S l x := by
  unfold hitP
  rw [pl2_la hp hx]
  refine anyN_congr (fun j _ => ?_)
  rw [pl2_bin hp hx, hp.2.1 9 (by decide) (by decide) _ (by omega), hp.2.2 12 (by decide) (by decide) _ (by omega), hp.2.2 11 (by decide) (by decide) _ (by omega), h15]
theorem TS_gen {C D S T : mS} {n na na' : Int} {Q Qa Qa' : Nat → mS} (h : TS C S n Q na Qa) (hp : pl2 S T) (h1 : SCH T 1 na' Qa') (h9 : D 0 9 = C 0 9) (h15 : T 15 = S 15) (h23 : T 23 = S 23 ∧ T 24 = S 24 ∧ T 25 = S 25) (hTR : ∀ i : Nat, (i : Int) < n → TR D T i) (hRG : RG T) (hPR : ∀ l : Nat, l < 6 → PR D T l) (hcu : ∀ l, 0 ≤ l → l < 6 → T 26 l ≠ 0 → S 26 l ≠ 0 ∧ T 29 l = S 29 l) : TS D T n Q na' Qa' := by
  obtain ⟨⟨g9, g15⟩, g2, g1, gtr, grg, gpr, gvf, gcu⟩ := h
  have fl : FL T = FL S := FL_k h23.1 h23.2.1 h23.2.2
  refine ⟨⟨by rw [h9, h15]; exact g9, by rw [h15]; exact g15⟩, pl2_sch hp g2, h1, hTR, hRG, hPR, ⟨by rw [h23.1]; exact gvf.1, fun x hx => ?_, fun i => by unfold flS; rw [fl]; exact gvf.2.2 i⟩, fun l l0 l1 hl => ?_⟩
  · rw [fl] at hx
    obtain ⟨a, b, c, d⟩ := gvf.2.1 x hx
    rw [h15, pl2_lat hp a.1, hp.2.1 10 (by decide) (by decide) _ (by omega), hp.2.1 8 (by decide) (by decide) _ (by omega)]
    exact ⟨a, b, c, d⟩
  · obtain ⟨a, b⟩ := hcu l l0 l1 hl
    obtain ⟨c, d⟩ := gcu l l0 l1 a
    refine ⟨b.trans c, fun x hx => ?_⟩
    rw [fl] at hx
    rw [pl2_hit hp (by rw [h15]) (gvf.2.1 x hx).1.1]
    exact d x hx
theorem RG_k {S T : mS} (h : RG S) (h6 : T 16 = S 16) (h7 : T 17 = S 17) (h8 : T 18 = S 18) : RG T := fun i a b => by rw [h6, h7, h8]; exact h i a b
theorem plq.of {l : Nat} {S T : mS} (h : ∀ k, 26 ≤ k → T k = S k) : plq l S T := ⟨by rw [h 26 (by decide)], by rw [h 27 (by decide)], by rw [h 29 (by decide)], by rw [h 30 (by decide)], fun x _ _ => by rw [h 28 (by decide)]⟩
/-- the rows behind the schedules are the same -/
theorem TS_k {C D S T : mS} {n na na' : Int} {Q Qa Qa' : Nat → mS} (h : TS C S n Q na Qa) (hp : pl2 S T) (h1 : SCH T 1 na' Qa') (hC : ∀ k, 13 ≤ k → D k = C k) (h9 : D 0 9 = C 0 9) (hS : ∀ k, 15 ≤ k → T k = S k) : TS D T n Q na' Qa' := by
  have h0 := id h
  obtain ⟨-, -, -, gtr, grg, gpr, -, -⟩ := h0
  refine TS_gen h hp h1 h9 (hS 15 (by decide)) ⟨hS 23 (by decide), hS 24 (by decide), hS 25 (by decide)⟩ (fun i hi => TR_k (hC _ (by omega)) (hC _ (by omega)) (fun k k1 _ => by rw [hS k (by omega)]) (by unfold flS; rw [FL_k (hS 23 (by decide)) (hS 24 (by decide)) (hS 25 (by decide))]) (gtr i hi)) (RG_k grg (hS 16 (by decide)) (hS 17 (by decide)) (hS 18 (by decide))) (fun l hl => PR_k (hC _ (by omega)) (hC _ (by omega)) (plq.of (fun k hk => hS k (by omega))) (gpr l hl)) (fun l _ _ hl => ⟨by rw [← hS 26 (by decide)]; exact hl, by rw [hS 29 (by decide)]⟩)
def SR (C S : mS) : Prop := (∀ l, 0 ≤ l → l < 6 → C 1 l = S 1 l ∧ 0 ≤ S 1 l ∧ S 1 l ≤ 9 ∧ C 6 l = 0) ∧ (C 0 2 = S 2 0 ∧ 0 ≤ S 2 0 ∧ S 2 0 ≤ 5) ∧ (C 3 0 = S 13 0 ∧ SW C) ∧ ∀ i, 0 ≤ i → i < S 2 0 → mSt S i ∧ pDis S i
def SM (C S : mS) (n4 : Int) (Q4 : Nat → mS) (na : Int) (Qa : Nat → mS) (n : Int) (Q : Nat → mS) : Prop := TS C S n Q na Qa ∧ SCH S 0 n4 Q4 ∧ SR C S
theorem pDis_k {S T : mS} {i : Int} (h6 : ∀ e, 3 * i ≤ e → e < 3 * i + 3 → T 6 e = S 6 e) (h : pDis S i) : pDis T i := by
  have hl : lastF T i = lastF S i := by unfold lastF; rw [h6 _ (by omega) (by omega), h6 _ (by omega) (by omega)]
  intro x y hx hy e
  rw [hl] at hx hy
  have := lastF_le S i
  rw [h6 _ (by omega) (by omega), h6 _ (by omega) (by omega)] at e
  exact h x y hx hy e
theorem SR_k {C D S T : mS} (h : SR C S) (h1 : D 1 = C 1) (h3 : D 3 = C 3) (h4 : D 4 = C 4) (h6 : D 6 = C 6) (h02 : D 0 2 = C 0 2) (hS : ∀ k, 1 ≤ k → k ≤ 6 → T k = S k) (h13 : T 13 = S 13) : SR D T := by
  obtain ⟨a, b, ⟨c, d1, d2⟩, e⟩ := h
  refine ⟨fun l l0 l1 => by rw [h1, h6, hS 1 (by decide) (by decide)]; exact a l l0 l1, by rw [h02, hS 2 (by decide) (by decide)]; exact b, ⟨by rw [h3, h13]; exact c, by rw [h3]; exact d1, by rw [h4]; exact d2⟩, fun i i0 i1 => ?_⟩
  rw [hS 2 (by decide) (by decide)] at i1
  obtain ⟨f, g⟩ := e i i0 i1
  exact ⟨mSt_k (fun k k1 k2 => hS k (by omega) (by omega)) f, pDis_k (fun e _ _ => by rw [hS 6 (by decide) (by decide)]) g⟩
/-- the word of the last refusal -/
theorem SM_0 {C S : mS} {n4 na n : Int} {Q4 Qa Q : Nat → mS} (h : SM C S n4 Q4 na Qa n Q) (v : Int) : SM C (mw S 0 0 v) n4 Q4 na Qa n Q := by
  have hk : ∀ k, k ≠ 0 → mw S 0 0 v k = S k := fun k hk => mw_ne k hk
  exact ⟨TS_k h.1 (pl2.of fun k _ _ => hk k (by omega)) (SCH_k h.1.2.2.1 fun k _ _ => hk k (by omega)) (fun _ _ => rfl) rfl (fun k _ => hk k (by omega)), SCH_k h.2.1 (fun k _ _ => hk k (by omega)), SR_k h.2.2 rfl rfl rfl rfl rfl (fun k _ _ => hk k (by omega)) (hk 13 (by decide))⟩
theorem sm_delay {C S : mS} {n4 na n : Int} {Q4 Qa Q : Nat → mS} (h : SM C S n4 Q4 na Qa n Q) (w t : Int) : (thD w t ≠ 0 → SM C (delS S w t) n4 Q4 na Qa n Q) ∧ (thD w t = 0 → SM (mw C 1 w t) (delS S w t) n4 Q4 na Qa n Q) := by
  unfold delS
  refine ⟨fun q => by rw [if_neg q]; exact SM_0 h _, fun q => ?_⟩
  rw [if_pos q]
  have h0 := SM_0 h (thD w t)
  have hw : (0 ≤ w ∧ w < 6) ∧ 0 ≤ t ∧ t ≤ 9 := by unfold thD at q; split at q <;> (try split at q) <;> omega
  generalize mw S 0 0 (thD w t) = S at h0
  have hk : ∀ k, k ≠ 1 → mw S 1 w t k = S k := fun k hk => mw_ne k hk
  refine ⟨TS_k h0.1 (pl2.of fun k _ _ => hk k (by omega)) (SCH_k h0.1.2.2.1 fun k _ _ => hk k (by omega)) (fun k _ => mw_ne k (by omega)) (mw_k (by decide)) (fun k _ => hk k (by omega)), SCH_k h0.2.1 (fun k _ _ => hk k (by omega)), ?_⟩
  obtain ⟨a, b, ⟨c, d1, d2⟩, e⟩ := h0.2.2
  refine ⟨fun l l0 l1 => ?_, by rw [mw_k (by decide), mw_k (by decide)]; exact b, ⟨by rw [mw_k (by decide), mw_k (by decide)]; exact c, by rw [mw_k (by decide)]; exact d1, fun e e0 e1 => by rw [mw_k (by decide)]; exact d2 e e0 e1⟩, fun i i0 i1 => ?_⟩
  · by_cases q2 : l = w
    · subst q2; rw [mw_s, mw_s, mw_k (by decide)]; exact ⟨rfl, hw.2.1, hw.2.2, (a l l0 l1).2.2.2⟩
    · rw [mw_e q2, mw_e q2, mw_k (by decide)]; exact a l l0 l1
  · rw [mw_k (by decide)] at i1
    obtain ⟨f, g⟩ := e i i0 i1
    exact ⟨mSt_k (fun k k1 k2 => hk k (by omega)) f, pDis_k (fun e _ _ => by rw [hk 6 (by decide)]) g⟩
theorem sm_clear {C S : mS} {n4 na n : Int} {Q4 Qa Q : Nat → mS} (h : SM C S n4 Q4 na Qa n Q) : SM (mw C 0 2 0) (mw (mw S 0 0 0) 2 0 0) n4 Q4 na Qa n Q := by
  have h0 := SM_0 h 0
  generalize mw S 0 0 0 = S at h0
  have hk : ∀ k, k ≠ 2 → mw S 2 0 0 k = S k := fun k hk => mw_ne k hk
  refine ⟨TS_k h0.1 (pl2.of fun k _ _ => hk k (by omega)) (SCH_k h0.1.2.2.1 fun k _ _ => hk k (by omega)) (fun k _ => mw_ne k (by omega)) (mw_e (by decide)) (fun k _ => hk k (by omega)), SCH_k h0.2.1 (fun k _ _ => hk k (by omega)), ?_⟩
  obtain ⟨a, b, ⟨c, d1, d2⟩, e⟩ := h0.2.2
  refine ⟨fun l l0 l1 => by rw [mw_k (by decide), mw_k (by decide), mw_k (by decide)]; exact a l l0 l1, by rw [mw_s, mw_s]; decide, ⟨by rw [mw_k (by decide), mw_k (by decide)]; exact c, by rw [mw_k (by decide)]; exact d1, fun e e0 e1 => by rw [mw_k (by decide)]; exact d2 e e0 e1⟩, fun i i0 i1 => ?_⟩
  rw [mw_s] at i1
  omega
theorem sm_tries {C S : mS} {n4 na n : Int} {Q4 Qa Q : Nat → mS} (h : SM C S n4 Q4 na Qa n Q) : C 3 0 = S 13 0 := h.2.2.2.2.1.1
theorem sm_offset {C S : mS} {n4 na n : Int} {Q4 Qa Q : Nat → mS} (h : SM C S n4 Q4 na Qa n Q) (i : Int) : thOn n4 i = thO S i ∧ (thO S i = 0 → Q4 i.toNat 7 0 = ofR S i) := by
  have hs := h.2.1
  have e : thOn n4 i = thO S i := by unfold thOn thO; rw [hs.2.1]
  refine ⟨e, fun q => ?_⟩
  unfold ofR
  rw [if_pos q]
  have hr : 0 ≤ i ∧ i < n4 := by rw [← e] at q; unfold thOn at q; split at q <;> (try split at q) <;> omega
  have hp := hs.2.2.1 i.toNat (by omega)
  rw [hp.1.2.2.1]
  congr 1
  omega
theorem sm_gate {C S : mS} {n4 na n : Int} {Q4 Qa Q : Nat → mS} (h : SM C S n4 Q4 na Qa n Q) (w t : Int) : thGn n4 w t = thG S w t ∧ (thG S w t = 0 → owF n4.toNat Q4 w t = gaR S w t) := by
  have hs := h.2.1
  have e : thGn n4 w t = thG S w t := by unfold thGn thG; rw [hs.2.1]
  refine ⟨e, fun q => ?_⟩
  unfold gaR
  rw [if_pos q]
  have hr : 0 ≤ w ∧ 0 ≤ t ∧ t ≤ 31 := by unfold thG at q; split at q <;> (try split at q) <;> (try split at q) <;> omega
  exact hs.own hr.1 (by omega)
theorem sm_activate {C S : mS} {n4 na n : Int} {Q4 Qa Q : Nat → mS} (h : SM C S n4 Q4 na Qa n Q) : thAn n4 = thA S ∧ (thA S ≠ 0 → SM C (actS S) n4 Q4 na Qa n Q) ∧ (thA S = 0 → SM C (actS S) n4 Q4 n4 Q4 n Q) := by
  have e : thAn n4 = thA S := by unfold thAn thA; rw [h.2.1.2.1]
  unfold actS
  refine ⟨e, fun q => by rw [if_neg q]; exact SM_0 h _, fun q => ?_⟩
  rw [if_pos q]
  have h0 := SM_0 h (thA S)
  generalize mw S 0 0 (thA S) = S at h0
  have hk : ∀ k, (k < 7 ∨ 12 < k) → copF S 0 1 k = S k := fun k hk => cop_k (by decide) hk
  refine ⟨TS_k h0.1 ⟨?_, fun k a b e he => ?_, fun k a b e he => ?_⟩ (SCH_cop (by decide) h0.2.1) (fun _ _ => rfl) rfl (fun k _ => hk k (by omega)), SCH_cop0 (by decide) (by decide) h0.2.1, SR_k h0.2.2 rfl rfl rfl rfl rfl (fun k _ _ => hk k (by omega)) (hk 13 (by omega))⟩
  · rw [cop_7 (by decide), if_neg (by decide)]
  · rw [cop_5 (by decide) (by omega), if_neg (by omega)]
  · rw [cop_15 (by decide) (by omega), if_neg (by omega)]
theorem sm_tick {C S : mS} {n4 na n : Int} {Q4 Qa Q : Nat → mS} (h : SM C S n4 Q4 na Qa n Q) {k : Int} (ht : S 15 0 + 200 ≤ 999000) : (thT k = 0 → (∀ j : Nat, j < k.toNat → NC Qa (itX Qa j (C, n, Q, na)) ∧ TK (itN j (fun T _ => tckF T) (mw S 0 0 (thT k))))) ∧ (thT k ≠ 0 → SM C (tickS S k) n4 Q4 na Qa n Q ∧ tickS S k 15 0 = S 15 0) ∧ (thT k = 0 → SM (itX Qa k.toNat (C, n, Q, na)).1 (tickS S k) n4 Q4 (itX Qa k.toNat (C, n, Q, na)).2.2.2 Qa (itX Qa k.toNat (C, n, Q, na)).2.1 (itX Qa k.toNat (C, n, Q, na)).2.2.1 ∧ tickS S k 15 0 ≤ S 15 0 + 200 ∧ (itX Qa k.toNat (C, n, Q, na)).1 0 9 = tickR S k ∧ tickS S k 2 = S 2 ∧ (∀ j, 3 ≤ j → j ≤ 6 → tickS S k j = S j)) := by
  have h0 := SM_0 h (thT k)
  have h15 : mw S 0 0 (thT k) 15 0 = S 15 0 := mw_k (by decide)
  by_cases q : thT k = 0
  · have hr : 1 ≤ k ∧ k ≤ 200 := by unfold thT at q; split at q <;> omega
    obtain ⟨g1, g2, g3, g4, g5, g6⟩ := ts_ticks k.toNat h0.1 (by rw [h15]; omega)
    have eS : tickS S k = itN k.toNat (fun T _ => tckF T) (mw S 0 0 (thT k)) := by unfold tickS; rw [if_pos q]
    have kS : ∀ j, 0 < j → j < 7 → tickS S k j = S j := fun j a b => by rw [eS, g3.1 j b, mw_ne j (by omega)]
    refine ⟨fun _ => g1, fun z => absurd q z, fun _ => ⟨⟨by rw [eS]; exact g2, by rw [eS]; exact g3.2.2.2 _ _ h0.2.1, ?_⟩, by rw [eS, g6, h15]; omega, ?_, kS 2 (by decide) (by decide), fun j a b => kS j (by omega) (by omega)⟩⟩
    · refine SR_k h.2.2 (g4 1 (by decide) (by decide)) (g4 3 (by decide) (by decide)) (g4 4 (by decide) (by decide)) (g4 6 (by decide) (by decide)) (g5 2 (by decide)) (fun j a b => kS j (by omega) (by omega)) ?_
      rw [eS, g3.2.1, mw_ne 13 (by decide)]
    · unfold tickR
      rw [if_pos q, eS]
      exact g2.1.1
  · have eS : tickS S k = mw S 0 0 (thT k) := by unfold tickS; rw [if_neg q]
    refine ⟨fun z => absurd z q, fun _ => ⟨by rw [eS]; exact h0, by rw [eS, h15]⟩, fun z => absurd z q⟩
theorem sm_streams {C S : mS} {n4 na n : Int} {Q4 Qa Q : Nat → mS} (h : SM C S n4 Q4 na Qa n Q) (u : Int) (q : thSt u = 0) : stC C n4 na n u = strR S u := by
  unfold stC strR
  rw [if_pos q, h.2.2.2.1.1, h.2.1.2.1, h.1.2.1.2.1, h.1.2.2.1.2.1]
