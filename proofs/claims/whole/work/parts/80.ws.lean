/-! both worlds at a step of the law -/
theorem gM_mono {l : Launch} {dA : Nat → ClassId} {y : MethodName} {w0 : Cond} {rm : Room} {σ : hS} {av : List Value} {Post Post' : Option Value → hS → Prop} {PX : String → hS → Prop} (h : gM l dA y w0 rm σ av Post PX) (hP : ∀ v σ9, Post v σ9 → Post' v σ9) : gM l dA y w0 rm σ av Post' PX := by
  intro D sz
  refine MetFree.mono (h D sz) (fun a s hp => hp) (fun _ _ _ _ _ _ => trivial) (fun a s o t hp hq => ?_)
  rcases hq with ⟨⟨v, σ', ho, hpost, h4⟩, h5⟩ | h
  · exact Or.inl ⟨⟨v, σ', ho, hP v σ' hpost, h4⟩, h5⟩
  · exact Or.inr h
theorem t32 (x : Int32) : -2147483648 ≤ x.toInt ∧ x.toInt ≤ 2147483647 := ⟨Int32.le_toInt x, by have := Int32.toInt_lt x; omega⟩
def STM (dA : Nat → ClassId) (cd : Nat → Nat) (σ : hS) (R : cR) (S : mS) : Prop := ∀ i : Nat, (i : Int) < S 2 0 → ∃ (sr : Nat) (P : Int → Int), R 2 (i : Int) = some sr ∧ isST dA cd σ sr (S 3 (i : Int)) (S 4 (i : Int)) (S 5 (i : Int)) (ptL (S 6 (3 * (i : Int) + 1)) (S 6 (3 * (i : Int) + 2))) P ∧ ∀ j : Nat, (j : Int) < ptL (S 6 (3 * (i : Int) + 1)) (S 6 (3 * (i : Int) + 2)) → P (j : Int) = S 6 (3 * (i : Int) + (j : Int))
theorem isST_fr {dA : Nat → ClassId} {cd : Nat → Nat} {σ σ' : hS} {sr : Nat} {p s d L : Int} {P : Int → Int} (h : isST dA cd σ sr p s d L P) (hF : cFr cd σ σ') : isST dA cd σ' sr p s d L P := by
  obtain ⟨pr, h1, h2⟩ := h
  exact ⟨pr, h1.fr hF, h2.fr hF⟩
theorem STM_fr {dA : Nat → ClassId} {cd : Nat → Nat} {σ σ' : hS} {R R' : cR} {S S' : mS} (h : STM dA cd σ R S) (hF : cFr cd σ σ') (hR : R' 2 = R 2) (hS : ∀ k, 2 ≤ k → k ≤ 6 → S' k = S k) : STM dA cd σ' R' S' := fun i hi => by
  rw [hS 2 (by decide) (by decide)] at hi
  rw [hR, hS 3 (by decide) (by decide), hS 4 (by decide) (by decide), hS 5 (by decide) (by decide), hS 6 (by decide) (by decide)]
  obtain ⟨sr, P, h1, h2, h3⟩ := h i hi
  exact ⟨sr, P, h1, isST_fr h2 hF, h3⟩
def K3 (C : mS) : Prop := ∀ i : Nat, i < 5 → C (13 + i) 3 = 0 ∨ C (13 + i) 3 = 1
theorem K3_k {C D : mS} (h : K3 C) (hk : ∀ k, 13 ≤ k → k < 18 → D k = C k) : K3 D := fun i hi => by rw [hk _ (by omega) (by omega)]; exact h i hi
theorem K3_t1 {C S : mS} {n na : Int} {Q Qa : Nat → mS} (h : TS C S n Q na Qa) (ht : S 15 0 ≤ 999000) (hk : K3 C) : K3 (t1F Qa (C, n, Q, na)).1 := fun i hi => by
  obtain ⟨-, g2, -⟩ := ts_tick h ht
  rcases Int.lt_or_le (i : Int) (t1F Qa (C, n, Q, na)).2.1 with q | q
  · obtain ⟨t1, t2, t3, -⟩ := g2.2.2.2.1 i q
    rw [t3]
    exact (g2.2.2.2.2.1 (i : Int) (by omega) (by omega)).2.2
  · have hn5 : (t1F Qa (C, n, Q, na)).2.1 ≤ 5 := g2.2.1.1.2
    have hn1 : n ≤ 5 := h.2.1.1.2
    have hna : na ≤ 5 := h.2.2.1.1.2
    have e : (t1F Qa (C, n, Q, na)).1 (13 + i) = C (13 + i) := by
      have q1 : (chF Qa (C, n, Q, na)).2.1 ≤ (i : Int) := q
      have q5 : (chF Qa (C, n, Q, na)).2.1 ≤ 5 := hn5
      have e1 : (chF Qa (C, n, Q, na)).1 (13 + i) = C (13 + i) := by
        unfold chF at q1 ⊢
        split
        · rename_i z
          rw [if_pos z] at q1
          have q1 : na ≤ (i : Int) := q1
          exact cfC_k (by show ∀ j, j < na.toNat → _; omega)
        · rfl
      show p1C (chF Qa (C, n, Q, na)).1 (chF Qa (C, n, Q, na)).2.1 (chF Qa (C, n, Q, na)).2.2.1 (chF Qa (C, n, Q, na)).2.2.2 (13 + i) = C (13 + i)
      rw [← e1]
      generalize chF Qa (C, n, Q, na) = y at q1 q5
      obtain ⟨C1, n1, Q1, na1⟩ := y
      have q1 : n1 ≤ (i : Int) := q1
      have q5 : n1 ≤ 5 := q5
      show p1C C1 n1 Q1 na1 (13 + i) = C1 (13 + i)
      unfold p1C p1B p1A
      rw [show etA (mw (bwA n1 Q1 (mvA n1.toNat Q1 (C1 0 9) (if na1 < 0 then spA n1.toNat Q1 (C1 0 9) C1 else C1))) 0 9 (bwA n1 Q1 (mvA n1.toNat Q1 (C1 0 9) (if na1 < 0 then spA n1.toNat Q1 (C1 0 9) C1 else C1)) 0 9 + 1)) (13 + i) = mw (bwA n1 Q1 (mvA n1.toNat Q1 (C1 0 9) (if na1 < 0 then spA n1.toNat Q1 (C1 0 9) C1 else C1))) 0 9 (bwA n1 Q1 (mvA n1.toNat Q1 (C1 0 9) (if na1 < 0 then spA n1.toNat Q1 (C1 0 9) C1 else C1)) 0 9 + 1) (13 + i) from etA_k (by omega), mw_ne (13 + i) (by omega)]
      rw [show bwA n1 Q1 (mvA n1.toNat Q1 (C1 0 9) (if na1 < 0 then spA n1.toNat Q1 (C1 0 9) C1 else C1)) (13 + i) = mvA n1.toNat Q1 (C1 0 9) (if na1 < 0 then spA n1.toNat Q1 (C1 0 9) C1 else C1) (13 + i) from bwA_k (by omega)]
      rw [show mvA n1.toNat Q1 (C1 0 9) (if na1 < 0 then spA n1.toNat Q1 (C1 0 9) C1 else C1) (13 + i) = (if na1 < 0 then spA n1.toNat Q1 (C1 0 9) C1 else C1) (13 + i) from mvA_k (by omega)]
      split
      · exact spA_k (by omega)
      · rfl
    rw [e]
    exact hk i hi
theorem K3_ticks {C S : mS} {n na : Int} {Q Qa : Nat → mS} (h : TS C S n Q na Qa) (hk : K3 C) : ∀ k : Nat, S 15 0 + (k : Int) ≤ 999000 → K3 (itX Qa k (C, n, Q, na)).1
  | 0, _ => hk
  | k + 1, ht => by
    obtain ⟨-, h2, -, -, -, h6⟩ := ts_ticks k h (by omega)
    exact K3_t1 (n := (itX Qa k (C, n, Q, na)).2.1) (na := (itX Qa k (C, n, Q, na)).2.2.2) (Q := (itX Qa k (C, n, Q, na)).2.2.1) h2 (by omega) (K3_ticks h hk k (by omega))
def WS (dA : Nat → ClassId) (cd : Nat → Nat) (σ : hS) (S : mS) (t : Int) : Prop := ∃ (C : mS) (R : cR) (n4 : Int) (Q4 : Nat → mS) (na : Int) (Qa : Nat → mS) (n : Int) (Q : Nat → mS), cat dA cd σ C R ∧ SM C S n4 Q4 na Qa n Q ∧ scO dA cd σ (R 0 4) n4 Q4 ∧ frH dA cd σ R n Q na Qa ∧ STM dA cd σ R S ∧ K3 C ∧ S 15 0 ≤ t
def WP (dA : Nat → ClassId) (cd : Nat → Nat) (o : Nat) (S : mS) (t : Int) (X : (Nat → Int64) → Prop) : Option Value → hS → Prop := fun v σ9 => v = some (.int (iI (S 0 0))) ∧ ∃ (σa : hS) (f : Nat → Int64), σ9 = uni σa (one o (lo dA f)) ∧ σa o = none ∧ WS dA cd σa S t ∧ (S 0 0 = 0 → X f)
theorem WS_same {dA : Nat → ClassId} {cd : Nat → Nat} {σ σ' : hS} {S S' C' : mS} {R : cR} {n4 na n t : Int} {Q4 Qa Q : Nat → mS} (hc : cat dA cd σ' C' R) (hF : cFr cd σ σ') (hm : SM C' S' n4 Q4 na Qa n Q) (h4 : scO dA cd σ (R 0 4) n4 Q4) (hfr : frH dA cd σ R n Q na Qa) (hs : STM dA cd σ R S) (hS : ∀ k, 2 ≤ k → k ≤ 6 → S' k = S k) (hk : K3 C') (ht : S' 15 0 ≤ t) : WS dA cd σ' S' t := ⟨C', R, n4, Q4, na, Qa, n, Q, hc, hm, h4.fr hF, hfr.fr hF, STM_fr hs hF rfl hS, hk, ht⟩
theorem cFr.refl' {cd : Nat → Nat} {σ : hS} : cFr cd σ σ := fun _ _ _ => rfl
/-! what the reference leaves of its first rows -/
def rw0 (S S' : mS) (th : Int) : Prop := S' 0 0 = th ∧ (∀ k, 2 ≤ k → k ≤ 6 → S' k = S k) ∧ S' 15 = S 15
theorem rw0.s0 {S : mS} {th : Int} : rw0 S (mw S 0 0 th) th := ⟨mw_s, fun k a _ => mw_ne k (by omega), mw_ne 15 (by decide)⟩
theorem rw0.st {S S' T : mS} {th : Int} (h : rw0 S S' th) (hT : ∀ k, (k = 0 ∨ (2 ≤ k ∧ k ≤ 6) ∨ k = 15) → T k = S' k) : rw0 S T th := ⟨by rw [hT 0 (by omega)]; exact h.1, fun k a b => (hT k (by omega)).trans (h.2.1 k a b), (hT 15 (by omega)).trans h.2.2⟩
theorem r_del {S : mS} {w t : Int} : rw0 S (delS S w t) (thD w t) := by
  unfold delS
  split
  · exact rw0.st rw0.s0 (fun k hk => mw_ne k (by omega))
  · exact rw0.s0
theorem r_act {S : mS} : rw0 S (actS S) (thA S) := by
  unfold actS
  split
  · exact rw0.st rw0.s0 (fun k hk => cop_k (by decide) (by omega))
  · exact rw0.s0
theorem r_talk {S : mS} {i on t : Int} : rw0 S (talkS S i on t) (thK S i t) := by
  unfold talkS
  split
  · exact rw0.st rw0.s0 (fun k hk => (mw_ne k (by omega)).trans (mw_ne k (by omega)))
  · exact rw0.s0
theorem r_unb {S : mS} {i : Int} : rw0 S (unbS S i) (thU S i) := by
  unfold unbS
  split
  · exact rw0.st rw0.s0 (fun k hk => mw_ne k (by omega))
  · exact rw0.s0
theorem r_bab {S : mS} {w t : Int} : rw0 S (babS S w t) (thB S w t) := by
  unfold babS
  split
  · exact rw0.st rw0.s0 (fun k hk => (mw_ne k (by omega)).trans (mw_ne k (by omega)))
  · exact rw0.s0
theorem r_cut {S : mS} {w on : Int} (h0 : 0 ≤ S 23 0) : rw0 S (cutS S w on) (thC w) := by
  unfold cutS
  split
  · refine rw0.st rw0.s0 (fun k hk => ?_)
    unfold cutY
    rw [mw_ne k (by omega)]
    unfold cutX
    split
    · exact mw_ne k (by omega)
    · rw [cu1_rmv _ _ (fun _ _ => rfl)]
      have e23 : mw (mw S 0 0 (thC w)) 26 w on 23 0 = S 23 0 := by rw [mw_k (by decide), mw_k (by decide)]
      rw [(rmv_ok (pr := hitP (mw (mw S 0 0 (thC w)) 26 w on) w) (mw S 0 0 (thC w) 23 0).toNat (mw (mw S 0 0 (thC w)) 26 w on) (by rw [e23]; exact h0) (by rw [FL_len, e23, mw_k (by decide)]; exact Nat.le_refl _)).2.1 k (by omega) (by omega) (by omega) (by omega)]
      exact mw_ne k (by omega)
  · exact rw0.s0
theorem bl_0 {most : Int} : ∀ (n : Nat) (T : mS) (t : Int), (bl most n T t).1 0 = T 0
  | 0, _, _ => rfl
  | n + 1, T, t => by
    rw [bl]
    split
    · rfl
    · split
      · rw [bl_0 n]
        exact (mw_ne 0 (by decide)).trans (mw_ne 0 (by decide))
      · split
        · show mw T 14 t (T 14 t + 1) 0 = T 0
          exact mw_ne 0 (by decide)
        · rw [bl_0 n]
          exact (mw_ne 0 (by decide)).trans (mw_ne 0 (by decide))
theorem bld_0 {S : mS} {al : Int} : bldS S al 0 0 = thBd al := by
  unfold bldS
  by_cases q : thBd al = 0
  · rw [if_pos q, q]
    have e : (blR S al).1 0 0 = 0 := by
      unfold blR
      rw [bl_0]
      unfold bl0
      rw [bl0_k _ (by decide), mw_k (by decide), mw_s]
    split
    · unfold keepF
      rw [(kp_at _ _).1 0 (by omega), mw_k (by decide)]
      exact e
    · exact e
  · rw [if_neg q, mw_s]
