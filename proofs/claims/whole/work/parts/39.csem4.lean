/-! the class's tick: what its parts do -/
def itcT (C : mS) (n : Nat) : Bool := allN n fun i => decide (C (13 + i) 4 = 0)
def itcP (C : mS) (m : Nat) : Bool := allN m fun l => decide (C (24 + l) 3 = 0)
def itc (C : mS) (n : Int) : Bool := decide (C 0 9 % 32 = 0) && itcT C n.toNat && itcP C 6
def bwF (C : mS) (n : Int) (Q : Nat → mS) (l : Nat) : mS := if (cbF C l && (decide (n < 0) || frF n.toNat Q (l : Int) (C 0 9) (C (24 + l + 6) 0).toNat)) = true then bfF C l else C
def cfC (C : mS) (m : Nat) : mS := itN m (fun T i => saF T i) C
def cfR (A : Nat → Option Nat) : Nat → cR → cR
  | 0, R => R
  | j + 1, R => rwr (cfR A j R) (13 + j) 0 (A j)
theorem cfR_k {A : Nat → Option Nat} {R : cR} {k : Nat} : ∀ {j : Nat}, (∀ i, i < j → k ≠ 13 + i) → cfR A j R k = R k
  | 0, _ => rfl
  | j + 1, h => by
    show rwr (cfR A j R) (13 + j) 0 (A j) k = R k
    rw [rwr_ne k (h j (Nat.lt_succ_self j))]
    exact cfR_k (fun i hi => h i (Nat.lt_succ_of_lt hi))
theorem cfR_at {A : Nat → Option Nat} {R : cR} {i : Nat} : ∀ {j : Nat}, i < j → cfR A j R (13 + i) 0 = A i
  | j + 1, h => by
    show rwr (cfR A j R) (13 + j) 0 (A j) (13 + i) 0 = A i
    rcases Nat.lt_succ_iff_lt_or_eq.mp h with q | q
    · rw [rwr_k (by omega)]
      exact cfR_at q
    · subst q
      exact rwr_s
/-- what a change of the schedule in force leaves in the table of references -/
def rcH (dA : Nat → ClassId) (cd : Nat → Nat) (σ : hS) (R R' : cR) (m : Nat) (Q : Nat → mS) : Prop := R' 0 4 = R 0 4 ∧ R' 0 5 = none ∧ R' 0 6 = R 0 5 ∧ R' 2 = R 2 ∧ ∀ i, i < m → ∃ ai, R' (13 + i) 0 = some ai ∧ isPS dA cd σ ai (Q i)
theorem rcH.fr {dA : Nat → ClassId} {cd : Nat → Nat} {σ σ' : hS} {R R' : cR} {m : Nat} {Q : Nat → mS} (h : rcH dA cd σ R R' m Q) (hF : cFr cd σ σ') : rcH dA cd σ' R R' m Q := ⟨h.1, h.2.1, h.2.2.1, h.2.2.2.1, fun i hi => (h.2.2.2.2 i hi).imp fun ai q => ⟨q.1, q.2.fr hF⟩⟩
theorem rcH.of {dA : Nat → ClassId} {cd : Nat → Nat} {σ : hS} {R : cR} {m : Nat} {Q : Nat → mS} {A : Nat → Option Nat} (hm : m ≤ 5) (h : ∀ i, i < m → ∃ ai, A i = some ai ∧ isPS dA cd σ ai (Q i)) : rcH dA cd σ R (cfR A m (rwr (rwr R 0 6 (R 0 5)) 0 5 none)) m Q := by
  refine ⟨?_, ?_, ?_, ?_, fun i hi => ?_⟩
  · rw [cfR_k (by omega), rwr_e (by decide), rwr_e (by decide)]
  · rw [cfR_k (by omega), rwr_s]
  · rw [cfR_k (by omega), rwr_e (by decide), rwr_s]
  · rw [cfR_k (by omega), rwr_ne 2 (by decide), rwr_ne 2 (by decide)]
  · obtain ⟨ai, h1, h2⟩ := h i hi
    exact ⟨ai, by rw [cfR_at hi, h1], h2⟩
theorem TkW_sa {C : mS} {i : Nat} : TkW (saF C i) i := by
  have e : ∀ k, k ≠ 13 + i → saF C i k = C k := fun k hk => saF_k hk
  have e1 : saF C i (13 + i) 1 = 1 := by unfold saF; rw [mw_e (by decide), mw_e (by decide), mw_e (by decide), mw_e (by decide), mw_e (by decide), mw_e (by decide), mw_e (by decide), mw_s]
  have e2 : saF C i (13 + i) 2 = 0 := by unfold saF; rw [mw_e (by decide), mw_e (by decide), mw_e (by decide), mw_e (by decide), mw_e (by decide), mw_e (by decide), mw_s]
  have e3 : saF C i (13 + i) 3 = 0 := by unfold saF; rw [mw_e (by decide), mw_e (by decide), mw_e (by decide), mw_e (by decide), mw_e (by decide), mw_s]
  have e4 : saF C i (13 + i) 4 = 0 := by unfold saF; rw [mw_e (by decide), mw_e (by decide), mw_e (by decide), mw_e (by decide), mw_s]
  unfold TkW
  rw [e1, e2, e3, e4]
  exact ⟨by omega, by omega, by omega, by omega, fun j h0 h1 => by omega⟩
theorem TkW_spk {C : mS} {i : Nat} {P : mS} {t : Int} (ht : 0 ≤ t ∧ t ≤ 1000000) (h : TkW C i) : TkW (spk C i P t) i := by
  obtain ⟨h1, h2, h3, h4, h5⟩ := h
  unfold spk
  split
  · split
    · unfold TkW
      rw [mw_e (show (1 : Int) ≠ 3 by decide), mw_e (show (1 : Int) ≠ 7 by decide), mw_e (show (2 : Int) ≠ 3 by decide), mw_e (show (2 : Int) ≠ 7 by decide), mw_s, mw_e (show (4 : Int) ≠ 3 by decide), mw_e (show (4 : Int) ≠ 7 by decide), mw_ne (13 + i + 5) (by omega), mw_ne (13 + i + 5) (by omega)]
      exact ⟨h1, h2, Or.inr rfl, h4, h5⟩
    · split
      · rename_i q
        unfold TkW
        rw [mw_e (show (1 : Int) ≠ 4 by decide), mw_k (show 13 + i ≠ 13 + i + 5 by omega), mw_e (show (2 : Int) ≠ 4 by decide), mw_k (show 13 + i ≠ 13 + i + 5 by omega), mw_e (show (3 : Int) ≠ 4 by decide), mw_k (show 13 + i ≠ 13 + i + 5 by omega), mw_s, mw_ne (13 + i + 5) (by omega)]
        refine ⟨h1, h2, h3, by omega, fun j q1 q2 => ?_⟩
        by_cases hj : j = C (13 + i) 4
        · subst hj; rw [mw_s]; exact ht
        · rw [mw_e hj]; exact h5 j q1 (by omega)
      · exact ⟨h1, h2, h3, h4, h5⟩
  · exact ⟨h1, h2, h3, h4, h5⟩
/-- a link's end with its first frame's size -/
def PtX (C : mS) (l : Nat) : Prop := PtW C l ∧ (0 < C (24 + l) 1 → 1 ≤ C (24 + l + 6) 0 ∧ C (24 + l + 6) 0 ≤ 8)
theorem PtX_k {C T : mS} {l : Nat} (h1 : T (24 + l) = C (24 + l)) (h2 : T (24 + l + 6) = C (24 + l + 6)) (h : PtX C l) : PtX T l := by
  unfold PtX at h ⊢
  unfold PtW at h ⊢
  rw [h1, h2]
  exact h
def spA (n : Nat) (Q : Nat → mS) (t : Int) (C : mS) : mS := itN n (fun T i => spk T i (Q i) t) C
def mvA (n : Nat) (Q : Nat → mS) (t : Int) (C : mS) : mS := itN n (fun T i => mvF T i (Q i) t) C
def bwA (n : Int) (Q : Nat → mS) (C : mS) : mS := itN 6 (fun T l => bwF T n Q l) C
def etA (C : mS) : mS := itN 6 (fun T l => etF T l) C
theorem spA_k {n : Nat} {Q : Nat → mS} {t : Int} {C : mS} {k : Nat} (h : ∀ i, i < n → k ≠ 13 + i ∧ k ≠ 13 + i + 5) : itN n (fun T i => spk T i (Q i) t) C k = C k := itT_k (fun _ _ _ h1 h2 => spk_k h1 h2) C k n h
theorem mvA_k {n : Nat} {Q : Nat → mS} {t : Int} {C : mS} {k : Nat} (h : ∀ i, i < n → k ≠ 13 + i ∧ k ≠ 13 + i + 5) : itN n (fun T i => mvF T i (Q i) t) C k = C k := itT_k (fun _ _ _ h1 h2 => mvF_k h1 h2) C k n h
theorem cfC_k {n : Nat} {C : mS} {k : Nat} (h : ∀ i, i < n → k ≠ 13 + i ∧ k ≠ 13 + i + 5) : itN n (fun T i => saF T i) C k = C k := itT_k (fun _ _ _ h1 _ => saF_k h1) C k n h
theorem itT_in {f : mS → Nat → mS} (hf : ∀ T i k, k ≠ 13 + i → k ≠ 13 + i + 5 → f T i k = T k) (C : mS) {i : Nat} (hi5 : i < 5) : ∀ {m : Nat}, i < m → m ≤ 5 → itN m f C (13 + i) = f (itN i f C) i (13 + i) ∧ itN m f C (13 + i + 5) = f (itN i f C) i (13 + i + 5)
  | m + 1, h, hm => by
    rcases Nat.lt_succ_iff_lt_or_eq.mp h with q | q
    · have := itT_in hf C hi5 q (by omega)
      refine ⟨?_, ?_⟩
      · show f (itN m f C) m (13 + i) = _
        rw [hf _ _ _ (by omega) (by omega)]; exact this.1
      · show f (itN m f C) m (13 + i + 5) = _
        rw [hf _ _ _ (by omega) (by omega)]; exact this.2
    · subst q
      exact ⟨rfl, rfl⟩
theorem TkW_spA {n : Nat} {Q : Nat → mS} {t : Int} {C : mS} (hn : n ≤ 5) (ht : 0 ≤ t ∧ t ≤ 1000000) {i : Nat} (hi : i < 5) (h : TkW C i) : TkW (itN n (fun T i => spk T i (Q i) t) C) i := by
  rcases Nat.lt_or_ge i n with q | q
  · obtain ⟨e1, e2⟩ := itT_in (f := fun T i => spk T i (Q i) t) (fun _ _ _ h1 h2 => spk_k h1 h2) C hi q hn
    refine TkW_k e1 e2 (TkW_spk ht (TkW_k ?_ ?_ h))
    · exact spA_k (by omega)
    · exact spA_k (by omega)
  · exact TkW_k (spA_k (by omega)) (spA_k (by omega)) h
theorem TkW_cfC {n : Nat} {C : mS} (hn : n ≤ 5) {i : Nat} (hi : i < n) : TkW (cfC C n) i := by
  obtain ⟨e1, e2⟩ := itT_in (f := fun T i => saF T i) (fun _ _ _ h1 _ => saF_k h1) C (by omega) hi hn
  exact TkW_k e1 e2 TkW_sa
theorem bwF_k {C : mS} {n : Int} {Q : Nat → mS} {l k : Nat} (h1 : k ≠ 24 + l) (h2 : k ≠ 24 + l + 6) : bwF C n Q l k = C k := by
  unfold bwF
  split
  · exact bfF_k h1 h2
  · rfl
theorem itL_k {f : mS → Nat → mS} (hf : ∀ T l k, k ≠ 24 + l → k ≠ 24 + l + 6 → f T l k = T k) (C : mS) (k : Nat) : ∀ j : Nat, (∀ i, i < j → k ≠ 24 + i ∧ k ≠ 24 + i + 6) → itN j f C k = C k
  | 0, _ => rfl
  | j + 1, h => by
    show f (itN j f C) j k = C k
    rw [hf _ _ _ (h j (Nat.lt_succ_self j)).1 (h j (Nat.lt_succ_self j)).2]
    exact itL_k hf C k j (fun i hi => h i (Nat.lt_succ_of_lt hi))
theorem itL_in {f : mS → Nat → mS} (hf : ∀ T l k, k ≠ 24 + l → k ≠ 24 + l + 6 → f T l k = T k) (C : mS) {i : Nat} (hi5 : i < 6) : ∀ {m : Nat}, i < m → m ≤ 6 → itN m f C (24 + i) = f (itN i f C) i (24 + i) ∧ itN m f C (24 + i + 6) = f (itN i f C) i (24 + i + 6)
  | m + 1, h, hm => by
    rcases Nat.lt_succ_iff_lt_or_eq.mp h with q | q
    · have := itL_in hf C hi5 q (by omega)
      refine ⟨?_, ?_⟩
      · show f (itN m f C) m (24 + i) = _
        rw [hf _ _ _ (by omega) (by omega)]; exact this.1
      · show f (itN m f C) m (24 + i + 6) = _
        rw [hf _ _ _ (by omega) (by omega)]; exact this.2
    · subst q
      exact ⟨rfl, rfl⟩
theorem bwA_k {n : Int} {Q : Nat → mS} {C : mS} {k m : Nat} (h : ∀ i, i < m → k ≠ 24 + i ∧ k ≠ 24 + i + 6) : itN m (fun T l => bwF T n Q l) C k = C k := itL_k (fun _ _ _ h1 h2 => bwF_k h1 h2) C k m h
theorem etA_k {C : mS} {k m : Nat} (h : ∀ i, i < m → k ≠ 24 + i ∧ k ≠ 24 + i + 6) : itN m (fun T l => etF T l) C k = C k := itL_k (fun _ _ _ h1 _ => etF_k h1) C k m h
theorem PtW_bw {C : mS} {n : Int} {Q : Nat → mS} {l : Nat} (h : PtX C l) : PtW (bwF C n Q l) l := by
  unfold bwF
  split
  · rename_i q
    simp only [Bool.and_eq_true] at q
    have q1 := q.1
    unfold cbF at q1
    simp only [Bool.and_eq_true, decide_eq_true_eq] at q1
    obtain ⟨⟨h0, h1, h3⟩, h4⟩ := h
    have h5 := h4 q1.2
    have e0 : bfF C l (24 + l) 0 = C (24 + l) 0 := by unfold bfF; rw [mw_e (by decide), bf_at l _ _ _ (by omega), mw_e (by decide)]
    have e1 : bfF C l (24 + l) 1 = C (24 + l) 1 - 1 := by unfold bfF; rw [mw_s]
    have e3 : bfF C l (24 + l) 3 = C (24 + l + 6) 0 := by unfold bfF; rw [mw_e (by decide), bf_at l _ _ _ (by omega), mw_s]
    unfold PtW
    rw [e0, e1, e3]
    exact ⟨h0, by omega, by omega⟩
  · exact h.1
theorem PtW_bwA {n : Int} {Q : Nat → mS} {C : mS} (h : ∀ l, l < 6 → PtX C l) {l : Nat} (hl : l < 6) : PtW (bwA n Q C) l := by
  obtain ⟨e1, -⟩ := itL_in (f := fun T l => bwF T n Q l) (fun _ _ _ h1 h2 => bwF_k h1 h2) C hl hl (Nat.le_refl 6)
  refine PtW_k e1 (PtW_bw (PtX_k ?_ ?_ (h l hl)))
  · exact bwA_k (by omega)
  · exact bwA_k (by omega)
/-- a tick behind the change -/
def p1A (C : mS) (n : Int) (Q : Nat → mS) (na : Int) : mS := mvA n.toNat Q (C 0 9) (if na < 0 then spA n.toNat Q (C 0 9) C else C)
def p1B (C : mS) (n : Int) (Q : Nat → mS) (na : Int) : mS := bwA n Q (p1A C n Q na)
def p1C (C : mS) (n : Int) (Q : Nat → mS) (na : Int) : mS := etA (mw (p1B C n Q na) 0 9 (p1B C n Q na 0 9 + 1))
def chC (C : mS) (n na : Int) : Bool := decide (0 ≤ na) && itc C n
/-- a tick: table, how many in force, their plans, how many awaited -/
abbrev tSt : Type := mS × Int × (Nat → mS) × Int
def chF (Qa : Nat → mS) (x : tSt) : tSt := if chC x.1 x.2.1 x.2.2.2 = true then (cfC x.1 x.2.2.2.toNat, x.2.2.2, Qa, -1) else x
def t1F (Qa : Nat → mS) (x : tSt) : tSt := (p1C (chF Qa x).1 (chF Qa x).2.1 (chF Qa x).2.2.1 (chF Qa x).2.2.2, (chF Qa x).2)
def NC (Qa : Nat → mS) (x : tSt) : Prop := (0 ≤ x.1 0 9 ∧ x.1 0 9 ≤ 999000) ∧ (∀ i, i < x.2.1.toNat → TkW x.1 i ∧ PW (x.2.2.1 i)) ∧ (∀ l, l < 6 → PtX x.1 l) ∧ (∀ i, i < x.2.2.2.toNat → PW (Qa i)) ∧ (x.2.1 ≤ 5 ∧ x.2.2.2 ≤ 5)
/-- the heap's share: schedules and the talkers' plans -/
def frH (dA : Nat → ClassId) (cd : Nat → Nat) (σ : hS) (R : cR) (n : Int) (Q : Nat → mS) (na : Int) (Qa : Nat → mS) : Prop := scO dA cd σ (R 0 6) n Q ∧ scO dA cd σ (R 0 5) na Qa ∧ ∀ i, i < n.toNat → ∃ ai, R (13 + i) 0 = some ai ∧ isPS dA cd σ ai (Q i)
theorem frH.fr {dA : Nat → ClassId} {cd : Nat → Nat} {σ σ' : hS} {R : cR} {n na : Int} {Q Qa : Nat → mS} (h : frH dA cd σ R n Q na Qa) (hF : cFr cd σ σ') : frH dA cd σ' R n Q na Qa := ⟨h.1.fr hF, h.2.1.fr hF, fun i hi => (h.2.2 i hi).imp fun ai q => ⟨q.1, q.2.fr hF⟩⟩
theorem frH.ch {dA : Nat → ClassId} {cd : Nat → Nat} {σ : hS} {R R' : cR} {n na : Int} {Q Qa : Nat → mS} (h : frH dA cd σ R n Q na Qa) (hr : rcH dA cd σ R R' na.toNat Qa) : frH dA cd σ R' na Qa (-1) Qa := ⟨by rw [hr.2.2.1]; exact h.2.1, by rw [hr.2.1]; exact Or.inl ⟨rfl, rfl⟩, hr.2.2.2.2⟩
theorem bz_and {a : Bool} {P : Prop} [Decidable P] {v : Int} (h : (¬ bz a = 0 ∧ P ∧ v = 1) ∨ ((bz a = 0 ∨ ¬ P) ∧ v = 0)) : v = bz (a && decide P) := by
  rcases h with ⟨h1, h2, rfl⟩ | ⟨h1 | h1, rfl⟩
  · rw [bz_n0.mp h1, decide_eq_true h2]; rfl
  · rw [bz_0.mp h1]; rfl
  · rw [decide_eq_false h1, Bool.and_false]; rfl
theorem tkH.mono {dA : Nat → ClassId} {cd : Nat → Nat} {σ σ' : hS} {C T : mS} {R : cR} {n : Nat} {Q : Nat → mS} (h : tkH dA cd σ C R n Q) (hn : n ≤ 5) (hT : ∀ k, 13 ≤ k → k < 23 → T k = C k) (hF : cFr cd σ σ') : tkH dA cd σ' T R n Q := fun i hi => by
  obtain ⟨h1, h2, ai, h3, h4⟩ := h i hi
  exact ⟨TkW_k (hT _ (by omega) (by omega)) (hT _ (by omega) (by omega)) h1, h2, ai, h3, h4.fr hF⟩
def cuC (C : mS) (n : Int) (Q : Nat → mS) (w on : Int) : mS := if on = 0 then mw C (24 + w.toNat) 0 on else laC (mw C (24 + w.toNat) 0 on) n Q w.toNat
theorem NC_ch {Qa : Nat → mS} {x : tSt} (h : NC Qa x) : NC Qa (chF Qa x) := by
  unfold chF
  split
  · obtain ⟨h1, h2, h3, h4, h5⟩ := h
    refine ⟨?_, fun i hi => ⟨TkW_cfC (by show x.2.2.2.toNat ≤ 5; omega) hi, h4 i hi⟩, fun l hl => PtX_k ?_ ?_ (h3 l hl), fun i hi => absurd hi (by show ¬ i < (-1 : Int).toNat; omega), ⟨h5.2, by show (-1 : Int) ≤ 5; decide⟩⟩
    · show 0 ≤ cfC x.1 x.2.2.2.toNat 0 9 ∧ cfC x.1 x.2.2.2.toNat 0 9 ≤ 999000
      rw [show cfC x.1 x.2.2.2.toNat 0 = x.1 0 from cfC_k (by omega)]
      exact h1
    · exact cfC_k (by omega)
    · exact cfC_k (by omega)
  · exact h
theorem t1_fr {dA : Nat → ClassId} {cd : Nat → Nat} {σ : hS} {R R9 : cR} {n na : Int} {Q Qa : Nat → mS} {C : mS} (h : frH dA cd σ R n Q na Qa) (h2 : (chC C n na = true → rcH dA cd σ R R9 na.toNat Qa) ∧ (chC C n na = false → R9 = R)) : frH dA cd σ R9 (t1F Qa (C, n, Q, na)).2.1 (t1F Qa (C, n, Q, na)).2.2.1 (t1F Qa (C, n, Q, na)).2.2.2 Qa := by
  cases hc : chC C n na with
  | true =>
    have e : (t1F Qa (C, n, Q, na)).2 = (na, Qa, -1) := by
      show (chF Qa (C, n, Q, na)).2 = _
      unfold chF
      rw [if_pos hc]
    rw [e]
    exact h.ch (h2.1 hc)
  | false =>
    have e : (t1F Qa (C, n, Q, na)).2 = (n, Q, na) := by
      show (chF Qa (C, n, Q, na)).2 = _
      unfold chF
      rw [if_neg (by show ¬ chC C n na = true; rw [hc]; decide)]
    rw [e, h2.2 hc]
    exact h
def itX (Qa : Nat → mS) : Nat → tSt → tSt
  | 0, x => x
  | j + 1, x => t1F Qa (itX Qa j x)
theorem p1A_k {C : mS} {n na : Int} {Q : Nat → mS} {k : Nat} (hn : n ≤ 5) (h : k < 13 ∨ 23 ≤ k) : p1A C n Q na k = C k := by
  unfold p1A
  rw [show mvA n.toNat Q (C 0 9) (if na < 0 then spA n.toNat Q (C 0 9) C else C) k = (if na < 0 then spA n.toNat Q (C 0 9) C else C) k from mvA_k (by omega)]
  split
  · exact spA_k (by omega)
  · rfl
