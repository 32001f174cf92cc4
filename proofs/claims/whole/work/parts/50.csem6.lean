/-! the class's search -/
def SW (C : mS) : Prop := (0 ≤ C 3 0 ∧ C 3 0 ≤ 20000) ∧ ∀ e, 0 ≤ e → e < 6 → 0 ≤ C 4 e ∧ C 4 e ≤ 32
def updQ (Q : Nat → mS) (m : Nat) (P : mS) : Nat → mS := fun i => if i = m then P else Q i
def srun (n : Nat) (al : Int) : Nat → mS → (Nat → mS) → Int → mS × (Nat → mS) × Int
  | 0, C, Q, t => (C, Q, if t < 0 then 0 else 1)
  | z + 1, C, Q, t => if ¬ (0 ≤ t ∧ t < (n : Int)) then (C, Q, if t < 0 then 0 else 1)
    else if Q t.toNat 0 0 ≤ C 4 t then srun n al z C Q (t - 1)
    else if al ≤ C 3 0 then (C, Q, -1)
    else if fitB C (Q t.toNat) t.toNat = true then srun n al z (mw (fitC C (Q t.toNat) t.toNat) 4 (t + 1) 0) (updQ Q t.toNat (fitP C (Q t.toNat) t.toNat)) (t + 1)
    else srun n al z (fitC C (Q t.toNat) t.toNat) (updQ Q t.toNat (fitP C (Q t.toNat) t.toNat)) t
def sr0 (C : mS) : mS := mw (mw C 3 0 0) 4 0 0
theorem fit1_k {m : Nat} {P : mS} {off : Int} {k : Nat} (hk : k ≠ 6 + (m + 1)) : ∀ (j : Nat) (T : mS), itN j (fit1 m P off) T k = T k
  | 0, _ => rfl
  | j + 1, T => by
    show fit1 m P off (itN j (fit1 m P off) T) j k = T k
    unfold fit1
    rw [mw_ne k hk]
    exact fit1_k hk j T
theorem fitC_k {C P : mS} {m k : Nat} (h1 : k ≠ 6 + (m + 1)) : fitC C P m k = fit0 C m k := by
  unfold fitC
  split
  · rw [fit1_k h1]
    exact funext fun e => if_neg (fun q => h1 q.1)
  · rfl
theorem SW_fit {C P : mS} {m : Nat} (h : SW C) (h3 : C 3 0 < 20000) (h4 : C 4 (m : Int) < 32) : SW (fitC C P m) := by
  have e3 : fitC C P m 3 0 = C 3 0 + 1 := by rw [fitC_k (by omega)]; unfold fit0; rw [mw_s]
  have e4 : ∀ e, fitC C P m 4 e = if e = (m : Int) then C 4 (m : Int) + 1 else C 4 e := fun e => by
    rw [fitC_k (by omega)]
    unfold fit0
    rw [mw_k (by decide)]
    by_cases q : e = (m : Int)
    · rw [if_pos q, q, mw_s]
    · rw [if_neg q, mw_e q]
  refine ⟨by rw [e3]; have := h.1; omega, fun e h0 h1 => ?_⟩
  rw [e4]
  have := h.2 e h0 h1
  split
  · subst_vars; omega
  · exact this
theorem SW_nx {C : mS} {t : Int} (h : SW C) : SW (mw C 4 t 0) := ⟨by rw [mw_k (by decide)]; exact h.1, fun e h0 h1 => by
  by_cases q : e = t
  · subst q; rw [mw_s]; omega
  · rw [mw_e q]; exact h.2 e h0 h1⟩
theorem SW_0 {C : mS} (h : SW C) : SW (sr0 C) := by
  refine SW_nx (C := mw C 3 0 0) ⟨by rw [mw_s]; omega, fun e h0 h1 => by rw [mw_k (by decide)]; exact h.2 e h0 h1⟩
theorem PW_fit {C P : mS} {m : Nat} (h : PW P) (h4 : 0 ≤ C 4 (m : Int) ∧ C 4 (m : Int) < 32) : PW (fitP C P m) := by
  unfold fitP
  split
  · obtain ⟨w8, w0, w1, w2, w3, w7⟩ := h
    unfold PW
    rw [mw_k (show (8 : Nat) ≠ 7 by decide), mw_k (show (0 : Nat) ≠ 7 by decide), mw_k (show (1 : Nat) ≠ 7 by decide), mw_k (show (2 : Nat) ≠ 7 by decide), mw_s]
    exact ⟨w8, w0, w1, w2, fun j h0 h1 => w3 j h0 h1, h4⟩
  · exact h
theorem fitP_0 {C P : mS} {m k : Nat} (hk : k ≠ 7) : fitP C P m k = P k := by
  unfold fitP
  split
  · exact mw_ne k hk
  · rfl
/-- all but the planned streams and the 36 cells stay -/
def psFrs (cd : Nat → Nat) (ai : Nat → Nat) (n : Nat) (σ σ' : hS) : Prop := ∀ q, σ q ≠ none → (∀ i, i < n → q ≠ ai i) → (∀ k, k < 36 → q ≠ cd k) → σ' q = σ q
theorem psFrs.ps {cd ai : Nat → Nat} {n m : Nat} {σ σ1 σ2 : hS} (h : psFrs cd ai n σ σ1) (hm : m < n) (h2 : psFr cd (ai m) σ1 σ2) : psFrs cd ai n σ σ2 := fun q g1 g2 g3 => (h2 q (by rw [h q g1 g2 g3]; exact g1) (g2 m hm) g3).trans (h q g1 g2 g3)
theorem psFrs.c {cd ai : Nat → Nat} {n : Nat} {σ σ1 σ2 : hS} (h : psFrs cd ai n σ σ1) (h2 : cFr cd σ1 σ2) : psFrs cd ai n σ σ2 := fun q g1 g2 g3 => (h2 q (by rw [h q g1 g2 g3]; exact g1) g3).trans (h q g1 g2 g3)
theorem isPS.self {dA : Nat → ClassId} {cd : Nat → Nat} {σ : hS} {a : Nat} {P : mS} (h : isPS dA cd σ a P) : ∃ e : Nat × List Value, σ a = some (.inr e) := by
  obtain ⟨pa, ba, ea, sa, h0, -⟩ := h
  exact ⟨_, h0.1⟩
theorem run_ps {dA : Nat → ClassId} {cd ai : Nat → Nat} {n m : Nat} {σ σ9 : hS} {Q1 : Nat → mS} {P' : mS} (hQ : ∀ i, i < n → isPS dA cd σ (ai i) (Q1 i) ∧ PW (Q1 i)) (hdis : ∀ i j, i < n → j < n → ai i = ai j → i = j) (hm : m < n) (h9 : isPS dA cd σ9 (ai m) P') (hw : PW P') (hF : psFr cd (ai m) σ σ9) : ∀ i, i < n → isPS dA cd σ9 (ai i) (updQ Q1 m P' i) ∧ PW (updQ Q1 m P' i) := fun i hi => by
  unfold updQ
  by_cases h : i = m
  · subst h; rw [if_pos rfl]; exact ⟨h9, hw⟩
  · rw [if_neg h]
    obtain ⟨e, he⟩ := (hQ m hm).1.self
    exact ⟨(hQ i hi).1.ps (fun q => h (hdis i m hi hm q)) he hF, (hQ i hi).2⟩
theorem run_fr {dA : Nat → ClassId} {cd ai : Nat → Nat} {n : Nat} {σ σ9 : hS} {Q1 : Nat → mS} (hQ : ∀ i, i < n → isPS dA cd σ (ai i) (Q1 i) ∧ PW (Q1 i)) (hF : cFr cd σ σ9) : ∀ i, i < n → isPS dA cd σ9 (ai i) (Q1 i) ∧ PW (Q1 i) := fun i hi => ⟨(hQ i hi).1.fr hF, (hQ i hi).2⟩
/-- a planned stream just made: its ranges -/
theorem PSok.pw {PP : mS} {p s d L : Int} {pt dl : Int → Int} (h : PSok PP p s d L pt dl) (hr : (1 ≤ L ∧ L ≤ 3) ∧ (p = 8 ∨ p = 16 ∨ p = 32) ∧ (1 ≤ s ∧ s ≤ 4) ∧ (1 ≤ d ∧ d ≤ 60)) (hP : ∀ j : Nat, (j : Int) < L → 0 ≤ pt (j : Int) ∧ pt (j : Int) < 6) (hdl : ∀ l, 0 ≤ l → l < 6 → 0 ≤ dl l ∧ dl l ≤ 9) (h7 : PP 7 0 = 0) : PW PP := by
  obtain ⟨h0, h1, h2, h8, h3⟩ := h
  unfold PW
  rw [h0, h1, h2, h8, h7]
  refine ⟨hr.1, hr.2.1, hr.2.2.1, hr.2.2.2, fun j j0 j1 => ?_, by omega⟩
  obtain ⟨i, rfl⟩ : ∃ i : Nat, j = (i : Int) := ⟨j.toNat, by omega⟩
  obtain ⟨g3, g4, g5, -⟩ := h3 i j1
  have hb := pbg_r (s := s) (pt := pt) (dl := dl) hr.2.2.1 i (fun x hx => hdl _ (hP x (by omega)).1 (hP x (by omega)).2)
  have hd := hdl _ (hP i j1).1 (hP i j1).2
  rw [g3, g4, g5]
  exact ⟨hP i j1, by omega, by omega⟩
theorem isPS.arr {dA : Nat → ClassId} {cd : Nat → Nat} {σ : hS} {a arr n : Nat} {P : mS} {c : ClassId} {z : (Nat → Int64) ⊕ (Nat → UInt32) ⊕ (Nat → UInt64) ⊕ (Nat → Option Nat)} {e : va_E} (h : isPS dA cd σ a P) (ha : σ arr = some (.inl (c, n, .inr z))) : isPS dA cd (hup σ arr e) a P := by
  obtain ⟨pa, ba, ea, sa, h0, h1, h2, h3, h4⟩ := h
  have mv : ∀ {x : Nat} {e1 : va_E}, pl cd σ x e1 → e1 ≠ .inl (c, n, .inr z) → pl cd (hup σ arr e) x e1 := fun {x e1} q hne => ⟨by
    rw [hup_n (fun w => hne (by
      have := q.1
      rw [w, ha] at this
      exact (Option.some.inj this).symm))]
    exact q.1, q.2⟩
  exact ⟨pa, ba, ea, sa, mv h0 (fun w => nomatch w), mv h1 (fun w => nomatch w), mv h2 (fun w => nomatch w), mv h3 (fun w => nomatch w), mv h4 (fun w => nomatch w)⟩
theorem srun_r {n : Nat} {al : Int} : ∀ (z : Nat) (C : mS) (Q : Nat → mS) (t : Int), -1 ≤ (srun n al z C Q t).2.2 ∧ (srun n al z C Q t).2.2 ≤ 1
  | 0, C, Q, t => by
    show -1 ≤ (if t < 0 then (0 : Int) else 1) ∧ (if t < 0 then (0 : Int) else 1) ≤ 1
    split <;> omega
  | z + 1, C, Q, t => by
    rw [srun]
    split
    · show -1 ≤ (if t < 0 then (0 : Int) else 1) ∧ (if t < 0 then (0 : Int) else 1) ≤ 1
      split <;> omega
    · split
      · exact srun_r z _ _ _
      · split
        · show -1 ≤ (-1 : Int) ∧ (-1 : Int) ≤ 1
          omega
        · split
          · exact srun_r z _ _ _
          · exact srun_r z _ _ _
theorem srun_zr {n : Nat} {al : Int} {z : Nat} {C : mS} {Q : Nat → mS} {t : Int} {CY : mS} {QY : Nat → mS} {vY : Int} (h : srun n al z C Q t = (CY, QY, vY)) : -2147483648 ≤ vY ∧ vY ≤ 2147483647 := by
  have := srun_r (n := n) (al := al) z C Q t
  rw [h] at this
  have h2 : -1 ≤ vY ∧ vY ≤ 1 := this
  omega
def updA (ai : Nat → Nat) (j q : Nat) : Nat → Nat := fun i => if i = j then q else ai i
/-- one more planned stream made -/
theorem bld_next {dA : Nat → ClassId} {cd ai : Nat → Nat} {σ0 σ σ9 : hS} {Q : Nat → mS} {PP : mS} {f : Nat → Option Nat} {j q arr cn : Nat} {dl : Int → Int} {sp ss sd sL : Nat → Int} {sP : Nat → Int → Int} {e : va_E} (hpl : ∀ i, i < j → f i = some (ai i) ∧ σ0 (ai i) = none ∧ isPS dA cd σ (ai i) (Q i) ∧ PSok (Q i) (sp i) (ss i) (sd i) (sL i) (sP i) dl ∧ Q i 7 0 = 0) (hq : σ q = none) (hz : σ0 q = none) (hF : psFr cd q σ σ9) (harr : σ9 arr = some (.inl (dA 2, cn, .inr (.inr (.inr (.inr f)))))) (hPP : isPS dA cd σ9 q PP) (hok : PSok PP (sp j) (ss j) (sd j) (sL j) (sP j) dl) (h7 : PP 7 0 = 0) :
    ∀ i, i < j + 1 → va_up f j (some q) i = some (updA ai j q i) ∧ σ0 (updA ai j q i) = none ∧ isPS dA cd (hup σ9 arr e) (updA ai j q i) (updQ Q j PP i) ∧ PSok (updQ Q j PP i) (sp i) (ss i) (sd i) (sL i) (sP i) dl ∧ updQ Q j PP i 7 0 = 0 := fun i hi => by
  unfold va_up updA updQ
  by_cases h : i = j
  · subst h
    rw [if_pos rfl, if_pos rfl, if_pos rfl]
    exact ⟨rfl, hz, hPP.arr harr, hok, h7⟩
  · rw [if_neg h, if_neg h, if_neg h]
    obtain ⟨g1, g2, g3, g4, g5⟩ := hpl i (by omega)
    have hne : ai i ≠ q := fun z => by
      obtain ⟨e, he⟩ := g3.self
      rw [z, hq] at he
      cases he
    refine ⟨g1, g2, ?_, g4, g5⟩
    obtain ⟨pa, ba, ea, sa, k0, k1, k2, k3, k4⟩ := g3
    have mv : ∀ {x : Nat} {e : va_E}, pl cd σ x e → pl cd σ9 x e := fun {x e} w => ⟨(hF x (by rw [w.1]; exact fun z => nomatch z) (fun z => by
      have := w.1
      rw [z, hq] at this
      cases this) w.2).trans w.1, w.2⟩
    exact isPS.arr ⟨pa, ba, ea, sa, mv k0, mv k1, mv k2, mv k3, mv k4⟩ harr
theorem bld_dis {dA : Nat → ClassId} {cd ai : Nat → Nat} {σ0 σ : hS} {Q : Nat → mS} {f : Nat → Option Nat} {j q : Nat} {dl : Int → Int} {sp ss sd sL : Nat → Int} {sP : Nat → Int → Int} (hpl : ∀ i, i < j → f i = some (ai i) ∧ σ0 (ai i) = none ∧ isPS dA cd σ (ai i) (Q i) ∧ PSok (Q i) (sp i) (ss i) (sd i) (sL i) (sP i) dl ∧ Q i 7 0 = 0) (hdis : ∀ i i1, i < j → i1 < j → ai i = ai i1 → i = i1) (hq : σ q = none) : ∀ i i1, i < j + 1 → i1 < j + 1 → updA ai j q i = updA ai j q i1 → i = i1 := fun i i1 hi hi1 h => by
  have hne : ∀ i, i < j → ai i ≠ q := fun i hi z => by
    obtain ⟨e, he⟩ := (hpl i hi).2.2.1.self
    rw [z, hq] at he
    cases he
  unfold updA at h
  by_cases h1 : i = j <;> by_cases h2 : i1 = j
  · omega
  · rw [if_pos h1, if_neg h2] at h; exact absurd h.symm (hne i1 (by omega))
  · rw [if_neg h1, if_pos h2] at h; exact absurd h (hne i (by omega))
  · rw [if_neg h1, if_neg h2] at h; exact hdis i i1 (by omega) (by omega) h
