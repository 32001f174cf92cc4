/-! the class's search -/
def SW (C : mS) : Prop := (0 ≤ C 3 0 ∧ C 3 0 ≤ 20000) ∧ ∀ e, 0 ≤ e → e < 6 → 0 ≤ C 4 e ∧ C 4 e ≤ 32
def updQ (Q : Nat → mS) (m : Nat) (P : mS) : Nat → mS := fun i => if i = m then P else Q i
def srun (n : Nat) (al : Int) : Nat → mS → (Nat → mS) → Int → mS × (Nat → mS) × Int
  | 0, C, Q, t => (C, Q, if t < 0 then 0 else 1)
  | z + 1, C, Q, t => if ¬ (0 ≤ t ∧ t < (n : Int)) then (C, Q, if t < 0 then 0 else 1)
    else if Q t.toNat 0 0 ≤ C 4 t then srun n al z C Q (t - 1)
    else if al ≤ C 3 0 then (C, Q, -1)
    else if fitB C (Q t.toNat) t.toNat = true then srun n al z (mw (fitC C (Q t.toNat) t.toNat) 4 (t + 1) 0) (updQ Q t.toNat (fitP C (Q t.toNat) t.toNat)) (t + 1)
    else srun n al z (fitC C (Q t.toNat) t.toNat) (updQ Q t.toNat (fitP C (Q t.toNat) t.toNat)) t
def sr0 (C : mS) : mS := mw (mw C 3 0 0) 4 0 0
theorem fit1_k {m : Nat} {P : mS} {off : Int} {k : Nat} (hk : k ≠ 6 + (m + 1)) : ∀ (j : Nat) (T : mS), itN j (fit1 m P off) T k = T k
  | 0, _ => rfl
  | j + 1, T => by
    show fit1 m P off (itN j (fit1 m P off) T) j k = T k
    unfold fit1
    rw [mw_ne k hk]
    exact fit1_k hk j T
theorem fitC_k {C P : mS} {m k : Nat} (h1 : k ≠ 6 + (m + 1)) : fitC C P m k = fit0 C m k := by
  unfold fitC
  split
  · rw [fit1_k h1]
    exact funext fun e => if_neg (fun q => h1 q.1)
  · rfl
theorem SW_fit {C P : mS} {m : Nat} (h : SW C) (h3 : C 3 0 < 20000) (h4 : C 4 (m : Int) < 32) : SW (fitC C P m) := by
  have e3 : fitC C P m 3 0 = C 3 0 + 1 := by rw [fitC_k (by omega)]; unfold fit0; rw [mw_s]
  have e4 : ∀ e, fitC C P m 4 e = if e = (m : Int) then C 4 (m : Int) + 1 else C 4 e := fun e => by
    rw [fitC_k (by omega)]
    unfold fit0
    rw [mw_k (by decide)]
    by_cases q : e = (m : Int)
    · rw [if_pos q, q, mw_s]
    · rw [if_neg q, mw_e q]
  refine ⟨by rw [e3]; have := h.1; omega, fun e h0 h1 => ?_⟩
  rw [e4]
  have := h.2 e h0 h1
  split
  · subst_vars; omega
  · exact this
theorem SW_nx {C : mS} {t : Int} (h : SW C) : SW (mw C 4 t 0) := ⟨by rw [mw_k (by decide)]; exact h.1, fun e h0 h1 => by
  by_cases q : e = t
  · subst q; rw [mw_s]; omega
  · rw [mw_e q]; exact h.2 e h0 h1⟩
theorem SW_0 {C : mS} (h : SW C) : SW (sr0 C) := by
  refine SW_nx (C := mw C 3 0 0) ⟨by rw [mw_s]; omega, fun e h0 h1 => by rw [mw_k (by decide)]; exact h.2 e h0 h1⟩
theorem PW_fit {C P : mS} {m : Nat} (h : PW P) (h4 : 0 ≤ C 4 (m : Int) ∧ C 4 (m : Int) < 32) : PW (fitP C P m) := by
  unfold fitP
  split
  · obtain ⟨w8, w0, w1, w2, w3, w7⟩ := h
    unfold PW
    rw [mw_k (show (8 : Nat) ≠ 7 by decide), mw_k (show (0 : Nat) ≠ 7 by decide), mw_k (show (1 : Nat) ≠ 7 by decide), mw_k (show (2 : Nat) ≠ 7 by decide), mw_s]
    exact ⟨w8, w0, w1, w2, fun j h0 h1 => w3 j h0 h1, h4⟩
  · exact h
theorem fitP_0 {C P : mS} {m k : Nat} (hk : k ≠ 7) : fitP C P m k = P k := by
  unfold fitP
  split
  · exact mw_ne k hk
  · rfl
