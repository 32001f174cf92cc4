/-! a tick of both sides: the relation, the change -/
def PR (C S : mS) (l : Nat) : Prop := (C (24 + l) 0 = S 26 (l : Int) ∧ C (24 + l) 1 = S 27 (l : Int) ∧ C (24 + l) 3 = S 29 (l : Int) ∧ C (24 + l) 4 = S 30 (l : Int)) ∧ ((S 26 (l : Int) = 0 ∨ S 26 (l : Int) = 1) ∧ (0 ≤ S 27 (l : Int) ∧ S 27 (l : Int) ≤ 4) ∧ (0 ≤ S 29 (l : Int) ∧ S 29 (l : Int) ≤ 8)) ∧ ∀ j : Int, 0 ≤ j → j < S 27 (l : Int) → C (24 + l + 6) j = S 28 (4 * (l : Int) + j) ∧ 1 ≤ S 28 (4 * (l : Int) + j) ∧ S 28 (4 * (l : Int) + j) ≤ 8
def CUT (S : mS) : Prop := ∀ l, 0 ≤ l → l < 6 → S 26 l ≠ 0 → S 29 l = 0 ∧ ∀ x ∈ FL S, hitP S l x = false
def TS (C S : mS) (n : Int) (Q : Nat → mS) (na : Int) (Qa : Nat → mS) : Prop := (C 0 9 = S 15 0 ∧ 0 ≤ S 15 0) ∧ SCH S 2 n Q ∧ SCH S 1 na Qa ∧ (∀ i : Nat, (i : Int) < n → TR C S i) ∧ RG S ∧ (∀ l : Nat, l < 6 → PR C S l) ∧ VF S n (S 15 0 - 1) ∧ CUT S
theorem fl_nil {S : mS} (h0 : 0 ≤ S 23 0) : FL S = [] ↔ S 23 0 = 0 := by
  rw [← List.length_eq_zero_iff, FL_len]
  omega
theorem q_eq {C S : mS} {n na : Int} {Q Qa : Nat → mS} (h : TS C S n Q na Qa) : (itcT C n.toNat && itcP C 6) = quietF S := by
  obtain ⟨-, h2, -, htr, -, hpr, hvf, -⟩ := h
  refine Bool.eq_iff_iff.mpr ?_
  unfold itcT itcP quietF
  rw [Bool.and_eq_true, Bool.and_eq_true, allN_iff, allN_iff, allN_iff, decide_eq_true_eq]
  refine and_congr ⟨fun hz => ?_, fun hz i hi => ?_⟩ ⟨fun hz l hl => ?_, fun hz l hl => ?_⟩
  · refine (fl_nil hvf.1).mp (List.eq_nil_iff_forall_not_mem.mpr (fun x hx => ?_))
    obtain ⟨⟨a, b⟩, -⟩ := hvf.2.1 x hx
    obtain ⟨i, hi⟩ : ∃ i : Nat, x.1 = (i : Int) := ⟨x.1.toNat, by omega⟩
    have hc := of_decide_eq_true (hz i (by omega))
    have hs : stL C i = [] := List.eq_nil_of_length_eq_zero (by rw [stL_len, hc]; rfl)
    have hm : x.2 ∈ flS S (i : Int) := flS_mem.mpr (by rw [← hi]; exact hx)
    rw [← (htr i (by omega)).2.2.2.2.2.2.2.2, hs] at hm
    exact absurd hm List.not_mem_nil
  · have hs : flS S (i : Int) = [] := by unfold flS; rw [(fl_nil hvf.1).mpr hz]; rfl
    obtain ⟨-, -, -, -, -, -, -, h4, hl⟩ := htr i (by omega)
    have hle := stL_len (C := C) (i := i)
    rw [hl, hs] at hle
    refine decide_eq_true ?_
    have : (0 : Nat) = (C (13 + i) 4).toNat := hle
    omega
  · have := of_decide_eq_true (hz l hl)
    exact decide_eq_true (by rw [← (hpr l hl).1.2.2.1]; exact this)
  · have := of_decide_eq_true (hz l hl)
    exact decide_eq_true (by rw [(hpr l hl).1.2.2.1]; exact this)
theorem ch_eq {C S : mS} {n na : Int} {Q Qa : Nat → mS} (h : TS C S n Q na Qa) : chC C n na = (decide (0 ≤ S 7 1) && decide ((S 15 0).tmod 32 = 0) && quietF S) := by
  have hq := q_eq h
  obtain ⟨⟨h9, h15⟩, -, h1, -⟩ := h
  unfold chC itc
  rw [← hq, h1.2.1, h9, Int.tmod_eq_emod_of_nonneg h15, Bool.and_assoc, Bool.and_assoc]
theorem SCH_7 {S : mS} {k c n v : Int} {Q : Nat → mS} (hc : k ≠ c) (h : SCH S k n Q) : SCH (mw S 7 c v) k n Q := ⟨h.1, by rw [mw_e hc]; exact h.2.1, fun i hi => PSR_k (mw_k (by decide)) (mw_k (by decide)) (mw_k (by decide)) (fun j _ => mw_k (by decide)) (fun j _ => mw_k (by decide)) (h.2.2.1 i hi), h.2.2.2⟩
theorem cif_sch {S : mS} {c n : Int} {Q : Nat → mS} (h : SCH (mw (copF S 1 2) 7 1 (-1)) c n Q) : SCH (cifF S) c n Q := SCH_k h (fun r h1 h2 => (cif1_at _ 5).1 r (by omega))
theorem cif_k {S : mS} {k : Nat} (h : k < 7 ∨ (12 < k ∧ k < 16) ∨ 22 < k) : cifF S k = S k := by
  unfold cifF
  rw [(cif1_at _ 5).1 k (by omega), mw_ne k (by omega), cop_k (by decide) (by omega)]
theorem cif_at {S : mS} {k : Nat} (h1 : 16 ≤ k) (h2 : k ≤ 22) {e : Int} (he : 0 ≤ e ∧ e < 5) : cifF S k e = if k = 22 then -1 else 0 := by
  unfold cifF
  rw [(cif1_at _ 5).2 k h1 h2 e, if_pos (by omega)]
theorem saF_at {C : mS} {i : Nat} : saF C i (13 + i) 1 = 1 ∧ saF C i (13 + i) 2 = 0 ∧ saF C i (13 + i) 3 = 0 ∧ saF C i (13 + i) 4 = 0 ∧ saF C i (13 + i) 5 = 0 ∧ saF C i (13 + i) 6 = 0 ∧ saF C i (13 + i) 7 = 0 ∧ saF C i (13 + i) 8 = -1 := by
  unfold saF
  simp [mw]
/-- what the two sides keep of their rows in the change -/
def kpS (S T : mS) : Prop := (∀ k, k < 7 → T k = S k) ∧ T 13 = S 13 ∧ T 14 = S 14 ∧ ∀ n0 Q0, SCH S 0 n0 Q0 → SCH T 0 n0 Q0
theorem kpS.rfl' {S : mS} : kpS S S := ⟨fun _ _ => rfl, rfl, rfl, fun _ _ h => h⟩
theorem kpS.tr {S T U : mS} (h : kpS S T) (g : kpS T U) : kpS S U := ⟨fun k hk => (g.1 k hk).trans (h.1 k hk), g.2.1.trans h.2.1, g.2.2.1.trans h.2.2.1, fun n Q q => g.2.2.2 n Q (h.2.2.2 n Q q)⟩
theorem kpS.of {S T : mS} (h : ∀ k, k < 15 → T k = S k) : kpS S T := ⟨fun k hk => h k (by omega), h 13 (by decide), h 14 (by decide), fun _ _ q => SCH_k q (fun r _ h2 => h r (by omega))⟩
theorem ts_ch {C S : mS} {n na : Int} {Q Qa : Nat → mS} (h : TS C S n Q na Qa) : TS (chF Qa (C, n, Q, na)).1 (tckA S) (chF Qa (C, n, Q, na)).2.1 (chF Qa (C, n, Q, na)).2.2.1 (chF Qa (C, n, Q, na)).2.2.2 Qa ∧ kpS S (tckA S) ∧ (∀ k, k < 13 ∨ 23 < k → (chF Qa (C, n, Q, na)).1 k = C k) ∧ tckA S 15 = S 15 := by
  have he := ch_eq h
  have hn5 : na ≤ 5 := h.2.2.1.1.2
  unfold chF tckA
  rw [← he]
  cases hc : chC C n na with
  | false => exact ⟨h, kpS.rfl', fun _ _ => rfl, rfl⟩
  | true =>
    rw [hc] at he
    rw [if_pos rfl, if_pos rfl]
    obtain ⟨⟨h9, h15⟩, h2, h1, htr, hrg, hpr, hvf, hcu⟩ := h
    have hq : S 23 0 = 0 := by
      have := (Bool.and_eq_true _ _).mp he.symm
      have := this.2
      unfold quietF at this
      rw [Bool.and_eq_true, decide_eq_true_eq] at this
      exact this.1
    have hfl : FL (cifF S) = [] := (fl_nil (by rw [cif_k (by omega), hq]; decide)).mpr (by rw [cif_k (by omega)]; exact hq)
    have hfs : ∀ i, flS (cifF S) i = [] := fun i => by unfold flS; rw [hfl]; rfl
    have k0 : ∀ k, (k < 13 ∨ 23 < k) → cfC C na.toNat k = C k := fun k hk => cfC_k (by omega)
    have k0' : ∀ k, (k < 13 ∨ 23 ≤ k) → cfC C na.toNat k = C k := fun k hk => cfC_k (by omega)
    refine ⟨⟨⟨?_, ?_⟩, ?_, ?_, fun i hi => ?_, fun i i0 i1 => ?_, fun l hl => ?_, ?_, fun l l0 l1 hl => ?_⟩, ⟨fun k hk => cif_k (by omega), cif_k (by omega), cif_k (by omega), fun n0 Q0 q => ?_⟩, k0, cif_k (by omega)⟩
    · show cfC C na.toNat 0 9 = cifF S 15 0
      rw [k0 0 (by omega), cif_k (by omega)]; exact h9
    · rw [cif_k (by omega)]; exact h15
    · exact cif_sch (SCH_7 (by decide) (SCH_cop (by decide) h1))
    · exact cif_sch (SCH_none mw_s)
    · show TR (cfC C na.toNat) (cifF S) i
      have hi : (i : Int) < na := hi
      obtain ⟨e1, e2⟩ := itT_in (f := fun T i => saF T i) (fun _ _ _ h1 _ => saF_k h1) C (i := i) (by omega) (m := na.toNat) (by omega) (by omega)
      have e1 : cfC C na.toNat (13 + i) = saF (itN i (fun T i => saF T i) C) i (13 + i) := e1
      obtain ⟨a1, a2, a3, a4, a5, a6, a7, a8⟩ := saF_at (C := itN i (fun T i => saF T i) C) (i := i)
      have g : ∀ k, 16 ≤ k → k ≤ 22 → cifF S k (i : Int) = if k = 22 then -1 else 0 := fun k q1 q2 => cif_at q1 q2 (by omega)
      have g16 := g 16 (by decide) (by decide)
      have g17 := g 17 (by decide) (by decide)
      have g18 := g 18 (by decide) (by decide)
      have g19 := g 19 (by decide) (by decide)
      have g20 := g 20 (by decide) (by decide)
      have g21 := g 21 (by decide) (by decide)
      have g22 := g 22 (by decide) (by decide)
      unfold TR
      rw [e1, a1, a2, a3, a4, a5, a6, a7, a8, g16, g17, g18, g19, g20, g21, g22, hfs]
      refine ⟨by decide, by decide, by decide, by decide, by decide, by decide, by decide, by decide, ?_⟩
      exact List.eq_nil_of_length_eq_zero (by rw [stL_len, e1, a4]; rfl)
    · have g : ∀ k, 16 ≤ k → k ≤ 22 → cifF S k i = if k = 22 then -1 else 0 := fun k q1 q2 => cif_at q1 q2 (by omega)
      rw [g 16 (by decide) (by decide), g 17 (by decide) (by decide), g 18 (by decide) (by decide)]
      decide
    · show PR (cfC C na.toNat) (cifF S) l
      unfold PR
      rw [k0' (24 + l) (by omega), k0' (24 + l + 6) (by omega), cif_k (S := S) (k := 26) (by omega), cif_k (S := S) (k := 27) (by omega), cif_k (S := S) (k := 28) (by omega), cif_k (S := S) (k := 29) (by omega), cif_k (S := S) (k := 30) (by omega)]
      exact hpr l hl
    · refine ⟨by rw [cif_k (by omega), hq]; decide, fun x hx => ?_, fun i => ?_⟩
      · rw [hfl] at hx; exact absurd hx List.not_mem_nil
      · rw [hfs]; exact List.Pairwise.nil
    · rw [cif_k (by omega)] at hl ⊢
      exact ⟨(hcu l l0 l1 hl).1, fun x hx => by rw [hfl] at hx; exact absurd hx List.not_mem_nil⟩
    · exact cif_sch (SCH_7 (by decide) (SCH_cop0 (by decide) (by decide) q))
