/-! stream, build -/
theorem sm_stream {C S : mS} {n4 na n : Int} {Q4 Qa Q : Nat → mS} (h : SM C S n4 Q4 na Qa n Q) (p s d a b c : Int) : thSmn (C 0 2) p s d a b c = thSm S p s d a b c ∧ (thSm S p s d a b c ≠ 0 → SM C (strS S p s d a b c) n4 Q4 na Qa n Q) ∧ (thSm S p s d a b c = 0 → SM (mw C 0 2 (C 0 2 + 1)) (strS S p s d a b c) n4 Q4 na Qa n Q ∧ C 0 2 = strRt S p s d a b c ∧ strS S p s d a b c 15 = S 15 ∧ strS S p s d a b c 2 0 = S 2 0 + 1 ∧ (∀ k, 3 ≤ k → k ≤ 5 → ∀ e, e ≠ S 2 0 → strS S p s d a b c k e = S k e) ∧ (∀ e, e < 3 * S 2 0 → strS S p s d a b c 6 e = S 6 e) ∧ strS S p s d a b c 3 (S 2 0) = p ∧ strS S p s d a b c 4 (S 2 0) = s ∧ strS S p s d a b c 5 (S 2 0) = d ∧ strS S p s d a b c 6 (3 * S 2 0) = a ∧ strS S p s d a b c 6 (3 * S 2 0 + 1) = b ∧ strS S p s d a b c 6 (3 * S 2 0 + 2) = c) := by
  obtain ⟨ra, rb, ⟨rc, rd1, rd2⟩, re⟩ := h.2.2
  have e : thSmn (C 0 2) p s d a b c = thSm S p s d a b c := by unfold thSmn thSm; rw [rb.1]
  refine ⟨e, fun q => by unfold strS; rw [if_neg q]; exact SM_0 h _, fun q => ?_⟩
  have hv : ((0 ≤ a ∧ a < 6) ∧ (b = -1 ∨ (0 ≤ b ∧ b < 6)) ∧ (c = -1 ∨ (0 ≤ c ∧ c < 6))) ∧ ((a ≠ b ∧ a ≠ c ∧ (b ≠ c ∨ b = -1)) ∧ (b ≠ -1 ∨ c = -1) ∧ (p = 8 ∨ p = 16 ∨ p = 32) ∧ (0 < s ∧ s < 5) ∧ (0 < d ∧ d < 61)) ∧ S 2 0 ≠ 5 := by
    unfold thSm at q
    split at q
    · omega
    · rename_i z1
      split at q
      · omega
      · rename_i z2
        split at q
        · omega
        · rename_i z3
          exact ⟨Classical.not_not.mp z1, Classical.not_not.mp z2, z3⟩
  have h0 := SM_0 h (thSm S p s d a b c)
  have k2 : ∀ k, k ≠ 0 → mw S 0 0 (thSm S p s d a b c) k = S k := fun k hk => mw_ne k hk
  unfold strS strRt
  rw [if_pos q, if_pos q]
  rw [← k2 2 (by decide), ← k2 15 (by decide)]
  have k2e : ∀ k, 3 ≤ k → k ≤ 6 → S k = mw S 0 0 (thSm S p s d a b c) k := fun k a _ => (k2 k (by omega)).symm
  have hv2 := hv.2.2
  rw [← k2 2 (by decide)] at hv2 rb
  generalize mw S 0 0 (thSm S p s d a b c) = V at h0 k2e hv2 rb ⊢
  obtain ⟨N, hN⟩ : ∃ N : Nat, V 2 0 = (N : Int) := ⟨(V 2 0).toNat, by omega⟩
  rw [hN] at hv2 rb ⊢
  have u2 : ∀ k, (k < 2 ∨ 6 < k) → mw (mw (mw (mw (mw (mw (mw V 3 (N : Int) p) 4 (N : Int) s) 5 (N : Int) d) 6 (3 * (N : Int)) a) 6 (3 * (N : Int) + 1) b) 6 (3 * (N : Int) + 2) c) 2 0 ((N : Int) + 1) k = V k := fun k hk => by
    rw [mw_ne k (by omega), mw_ne k (by omega), mw_ne k (by omega), mw_ne k (by omega), mw_ne k (by omega), mw_ne k (by omega), mw_ne k (by omega)]
  have u20 : mw (mw (mw (mw (mw (mw (mw V 3 (N : Int) p) 4 (N : Int) s) 5 (N : Int) d) 6 (3 * (N : Int)) a) 6 (3 * (N : Int) + 1) b) 6 (3 * (N : Int) + 2) c) 2 0 ((N : Int) + 1) 2 0 = (N : Int) + 1 := mw_s
  have u3 : ∀ e, mw (mw (mw (mw (mw (mw (mw V 3 (N : Int) p) 4 (N : Int) s) 5 (N : Int) d) 6 (3 * (N : Int)) a) 6 (3 * (N : Int) + 1) b) 6 (3 * (N : Int) + 2) c) 2 0 ((N : Int) + 1) 3 e = if e = (N : Int) then p else V 3 e := fun e => by
    rw [mw_k (by decide), mw_k (by decide), mw_k (by decide), mw_k (by decide), mw_k (by decide), mw_k (by decide), mw_at]
    by_cases z : e = (N : Int)
    · rw [if_pos ⟨rfl, z⟩, if_pos z]
    · rw [if_neg (fun y => z y.2), if_neg z]
  have u4 : ∀ e, mw (mw (mw (mw (mw (mw (mw V 3 (N : Int) p) 4 (N : Int) s) 5 (N : Int) d) 6 (3 * (N : Int)) a) 6 (3 * (N : Int) + 1) b) 6 (3 * (N : Int) + 2) c) 2 0 ((N : Int) + 1) 4 e = if e = (N : Int) then s else V 4 e := fun e => by
    rw [mw_k (by decide), mw_k (by decide), mw_k (by decide), mw_k (by decide), mw_k (by decide), mw_at]
    by_cases z : e = (N : Int)
    · rw [if_pos ⟨rfl, z⟩, if_pos z]
    · rw [if_neg (fun y => z y.2), if_neg z, mw_k (by decide)]
  have u5 : ∀ e, mw (mw (mw (mw (mw (mw (mw V 3 (N : Int) p) 4 (N : Int) s) 5 (N : Int) d) 6 (3 * (N : Int)) a) 6 (3 * (N : Int) + 1) b) 6 (3 * (N : Int) + 2) c) 2 0 ((N : Int) + 1) 5 e = if e = (N : Int) then d else V 5 e := fun e => by
    rw [mw_k (by decide), mw_k (by decide), mw_k (by decide), mw_k (by decide), mw_at]
    by_cases z : e = (N : Int)
    · rw [if_pos ⟨rfl, z⟩, if_pos z]
    · rw [if_neg (fun y => z y.2), if_neg z, mw_k (by decide), mw_k (by decide)]
  have u6 : ∀ e, mw (mw (mw (mw (mw (mw (mw V 3 (N : Int) p) 4 (N : Int) s) 5 (N : Int) d) 6 (3 * (N : Int)) a) 6 (3 * (N : Int) + 1) b) 6 (3 * (N : Int) + 2) c) 2 0 ((N : Int) + 1) 6 e = if e = 3 * (N : Int) + 2 then c else if e = 3 * (N : Int) + 1 then b else if e = 3 * (N : Int) then a else V 6 e := fun e => by
    rw [mw_k (by decide), mw_at]
    by_cases z2 : e = 3 * (N : Int) + 2
    · rw [if_pos ⟨rfl, z2⟩, if_pos z2]
    · rw [if_neg (fun y => z2 y.2), if_neg z2, mw_at]
      by_cases z1 : e = 3 * (N : Int) + 1
      · rw [if_pos ⟨rfl, z1⟩, if_pos z1]
      · rw [if_neg (fun y => z1 y.2), if_neg z1, mw_at]
        by_cases z0 : e = 3 * (N : Int)
        · rw [if_pos ⟨rfl, z0⟩, if_pos z0]
        · rw [if_neg (fun y => z0 y.2), if_neg z0, mw_k (by decide), mw_k (by decide), mw_k (by decide)]
  have k15 : mw (mw (mw (mw (mw (mw (mw V 3 (N : Int) p) 4 (N : Int) s) 5 (N : Int) d) 6 (3 * (N : Int)) a) 6 (3 * (N : Int) + 1) b) 6 (3 * (N : Int) + 2) c) 2 0 ((N : Int) + 1) 15 = V 15 := u2 15 (by omega)
  generalize mw (mw (mw (mw (mw (mw (mw V 3 (N : Int) p) 4 (N : Int) s) 5 (N : Int) d) 6 (3 * (N : Int)) a) 6 (3 * (N : Int) + 1) b) 6 (3 * (N : Int) + 2) c) 2 0 ((N : Int) + 1) = T at u2 u20 u3 u4 u5 u6 k15 ⊢
  have hN5 : N ≤ 5 := by omega
  refine ⟨⟨TS_k h0.1 (pl2.of fun k _ _ => u2 k (by omega)) (SCH_k h0.1.2.2.1 fun k _ _ => u2 k (by omega)) (fun k _ => mw_ne k (by omega)) (mw_e (by decide)) (fun k _ => u2 k (by omega)), SCH_k h0.2.1 (fun k _ _ => u2 k (by omega)), ⟨fun l l0 l1 => ?_, ?_, ⟨?_, ?_, fun e e0 e1 => ?_⟩, fun i i0 i1 => ?_⟩⟩, rb.1, k15, u20, fun k k3 k5 e he => ?_, fun e he => ?_, by rw [u3, if_pos rfl], by rw [u4, if_pos rfl], by rw [u5, if_pos rfl], by rw [u6, if_neg (by omega), if_neg (by omega), if_pos rfl], by rw [u6, if_neg (by omega), if_pos rfl], by rw [u6, if_pos rfl]⟩
  · rw [mw_k (by decide), mw_k (by decide), u2 1 (by omega)]
    exact h0.2.2.1 l l0 l1
  · rw [mw_s, u20, rb.1]
    omega
  · rw [mw_k (by decide), u2 13 (by omega)]
    exact h0.2.2.2.2.1.1
  · rw [mw_k (by decide)]
    exact rd1
  · rw [mw_k (by decide)]
    exact rd2 e e0 e1
  · rw [u20] at i1
    by_cases z : i = (N : Int)
    · subst z
      have a0 : T 6 (3 * (N : Int)) = a := by rw [u6, if_neg (by omega), if_neg (by omega), if_pos rfl]
      have a1 : T 6 (3 * (N : Int) + 1) = b := by rw [u6, if_neg (by omega), if_pos rfl]
      have a2 : T 6 (3 * (N : Int) + 2) = c := by rw [u6, if_pos rfl]
      refine ⟨?_, fun x y hx hy e => ?_⟩
      · unfold mSt
        rw [u3, u4, u5, if_pos rfl, if_pos rfl, if_pos rfl, a0, a1, a2]
        omega
      · have hl := lastF_le T (N : Int)
        have hx2 : x = 0 ∨ x = 1 ∨ x = 2 := by omega
        have hy2 : y = 0 ∨ y = 1 ∨ y = 2 := by omega
        have g : ∀ z : Nat, T 6 (3 * (N : Int) + (z : Int)) = if z = 2 then c else if z = 1 then b else if z = 0 then a else T 6 (3 * (N : Int) + (z : Int)) := fun z => by
          rcases (show z = 2 ∨ z = 1 ∨ z = 0 ∨ 3 ≤ z by omega) with q | q | q | q
          · subst q; exact a2
          · subst q; exact a1
          · subst q; rw [if_neg (by decide), if_neg (by decide), if_pos rfl, ← a0]; congr 1
          · rw [if_neg (by omega), if_neg (by omega), if_neg (by omega)]
        have hlf : lastF T (N : Int) = if 0 ≤ c then 2 else if 0 ≤ b then 1 else 0 := by unfold lastF; rw [a1, a2]
        rw [hlf] at hx hy
        rw [g x, g y] at e
        clear g hlf hl
        rcases hx2 with rfl | rfl | rfl <;> rcases hy2 with rfl | rfl | rfl <;> simp only [] at e <;> (first | rfl | (exfalso; revert hx hy e; simp; (repeat' split) <;> omega))
    · obtain ⟨f, g⟩ := h0.2.2.2.2.2 i i0 (by rw [hN]; omega)
      refine ⟨?_, pDis_k (fun e e0 e1 => by rw [u6, if_neg (by omega), if_neg (by omega), if_neg (by omega)]) g⟩
      unfold mSt at f ⊢
      rw [u3, u4, u5, if_neg z, if_neg z, if_neg z, u6 (3 * i), u6 (3 * i + 1), u6 (3 * i + 2), if_neg (by omega), if_neg (by omega), if_neg (by omega), if_neg (by omega), if_neg (by omega), if_neg (by omega), if_neg (by omega), if_neg (by omega), if_neg (by omega)]
      exact f
  · rw [k2e k k3 (by omega)]
    rcases (show k = 3 ∨ k = 4 ∨ k = 5 by omega) with rfl | rfl | rfl
    · rw [u3, if_neg he]
    · rw [u4, if_neg he]
    · rw [u5, if_neg he]
  · rw [k2e 6 (by decide) (by decide), u6, if_neg (by omega), if_neg (by omega), if_neg (by omega)]
theorem srun_6 {n : Nat} {al : Int} : ∀ (z : Nat) (C : mS) (Q : Nat → mS) (t : Int), (srun n al z C Q t).1 6 = C 6
  | 0, _, _, _ => rfl
  | z + 1, C, Q, t => by
    have hf : ∀ m : Nat, fitC C (Q m) m 6 = C 6 := fun m => by
      rw [fitC_k (by omega)]
      unfold fit0
      rw [mw_ne 6 (by decide), mw_ne 6 (by decide)]
    rw [srun]
    split
    · rfl
    · split
      · exact srun_6 z C Q _
      · split
        · rfl
        · split
          · rw [srun_6 z]
            exact (mw_ne 6 (by decide)).trans (hf _)
          · rw [srun_6 z]
            exact hf _
theorem sm_build {C S : mS} {n4 na n : Int} {Q4 Qa Q : Nat → mS} (h : SM C S n4 Q4 na Qa n Q) {al : Int} (hal : thBd al = 0) {cn : Nat} (hcn : C 0 2 = (cn : Int)) {P : Nat → mS} (hP : ∀ i : Nat, i < cn → STQ S i (P i)) : (srun cn al 40002 (sr0 C) P 0).2.2 = bldR S al ∧ ((srun cn al 40002 (sr0 C) P 0).2.2 = 1 → SM (srun cn al 40002 (sr0 C) P 0).1 (bldS S al) (cn : Int) (srun cn al 40002 (sr0 C) P 0).2.1 na Qa n Q) ∧ ((srun cn al 40002 (sr0 C) P 0).2.2 ≠ 1 → SM (srun cn al 40002 (sr0 C) P 0).1 (bldS S al) n4 Q4 na Qa n Q) ∧ (∀ k, 1 ≤ k → k ≤ 6 → bldS S al k = S k) ∧ bldS S al 15 = S 15 := by
  have hr : 0 ≤ al ∧ al ≤ 20000 := by unfold thBd at hal; split at hal <;> omega
  obtain ⟨ra, ⟨rb, rb2⟩, ⟨rc, rd⟩, re⟩ := h.2.2
  have hS2 : S 2 0 = (cn : Int) := by rw [← rb]; exact hcn
  have hn5 : cn ≤ 5 := by omega
  have hst : ∀ i, 0 ≤ i → i < S 2 0 → mSt S i := fun i a b => (re i a b).1
  have hd : mDl S := fun l a b => ⟨(ra l a b).2.1, (ra l a b).2.2.1⟩
  have hb0 : bl0 S 13 0 = 0 := by unfold bl0; rw [bl0_k _ (by decide), mw_s]
  have hb14 : ∀ j : Nat, j < 5 → bl0 S 14 (j : Int) = -1 := fun j hj => by unfold bl0; rw [bl0_at, if_pos (by omega)]
  have c3 : sr0 C 3 0 = 0 := by unfold sr0; rw [mw_k (by decide), mw_s]
  have ck : ∀ k, k ≠ 3 → k ≠ 4 → sr0 C k = C k := fun k a b => by unfold sr0; rw [mw_ne k b, mw_ne k a]
  have hTK : ∀ m : Nat, (m : Int) ≤ 0 → TKN (sr0 C) P m := fun m hm => by
    have : m = 0 := by omega
    subst this
    intro l l0 l1 k hk
    rw [show sr0 C (6 + 0) = C 6 from ck 6 (by decide) (by decide), (ra l l0 l1).2.2.2]
    refine ⟨fun z => ?_, fun ⟨j, j1, _⟩ => absurd j1 (Nat.not_lt_zero j)⟩
    rw [tb_zero.mp (show iI 0 = 0 from rfl) k hk] at z
    cases z
  obtain ⟨g1, gB, gW, gk, g3, g7⟩ := srch (S := S) (C0 := C) (n := cn) (most := al) hS2 hn5 hst hd hr (2 * al.toNat + 8) 40002 (bl0 S) (sr0 C) P 0 (by rw [hb0]; omega) (by rw [hb0]; omega) (by omega) (bl0_ok hst hr.1) (SW_0 rd) ⟨fun k a b _ => ck k a b, by rw [c3, hb0], fun j hj j0 => by
    have : j = 0 := by omega
    subst this
    rw [hb14 0 (by decide)]
    unfold sr0
    exact mw_s, fun j hj j0 => hb14 j (by omega), fun j _ j0 => by omega, hP, hTK, fun j i _ hi => absurd hi (Nat.not_lt_zero i)⟩
  have hC6 : (srun cn al 40002 (sr0 C) P 0).1 6 = C 6 := (srun_6 _ _ _ _).trans (ck 6 (by decide) (by decide))
  have eR : bldR S al = (bl al (2 * al.toNat + 8) (bl0 S) 0).2 := by unfold bldR blR; rw [if_pos hal]
  have eS : bldS S al = if (bl al (2 * al.toNat + 8) (bl0 S) 0).2 = 1 then keepF (bl al (2 * al.toNat + 8) (bl0 S) 0).1 else (bl al (2 * al.toNat + 8) (bl0 S) 0).1 := by unfold bldS blR; rw [if_pos hal]
  rw [eR, eS, g1]
  generalize (bl al (2 * al.toNat + 8) (bl0 S) 0).1 = T at gB g3 g7 ⊢
  generalize srun cn al 40002 (sr0 C) P 0 = X at gW gk g3 g7 hC6 ⊢
  obtain ⟨D, Z, v⟩ := X
  have gW : SW D := gW
  have gk : ∀ k, k ≠ 3 → k ≠ 4 → (k < 6 ∨ 12 ≤ k) → D k = C k := gk
  have g3 : D 3 0 = T 13 0 := g3
  have g7 : v = 1 → (∀ j : Nat, j < cn → stOk S T Z j ∧ STQ S j (Z j)) ∧ NMt Z cn := g7
  have hC6 : D 6 = C 6 := hC6
  show v = v ∧ (v = 1 → SM D (if v = 1 then keepF T else T) (cn : Int) Z na Qa n Q) ∧ (v ≠ 1 → SM D (if v = 1 then keepF T else T) n4 Q4 na Qa n Q) ∧ (∀ k, 1 ≤ k → k ≤ 6 → (if v = 1 then keepF T else T) k = S k) ∧ (if v = 1 then keepF T else T) 15 = S 15
  have tk : ∀ k, k ≠ 0 → k ≠ 13 → k ≠ 14 → T k = S k := gB.1
  have hSR : ∀ U : mS, (∀ k, 1 ≤ k → k ≤ 6 → U k = S k) → U 13 = T 13 → SR D U := fun U hU hU13 => by
    refine ⟨fun l l0 l1 => by rw [gk 1 (by decide) (by decide) (by decide), hU 1 (by decide) (by decide), hC6]; exact ra l l0 l1, by rw [gk 0 (by decide) (by decide) (by decide), hU 2 (by decide) (by decide)]; exact ⟨rb, rb2⟩, ⟨by rw [hU13]; exact g3, gW⟩, fun i i0 i1 => ?_⟩
    rw [hU 2 (by decide) (by decide)] at i1
    obtain ⟨f, g⟩ := re i i0 i1
    exact ⟨mSt_k (fun k k1 k2 => hU k (by omega) (by omega)) f, pDis_k (fun e _ _ => by rw [hU 6 (by decide) (by decide)]) g⟩
  by_cases hv : v = 1
  · rw [if_pos hv]
    obtain ⟨gs, gN⟩ := g7 hv
    have hT2 : T 2 0 = (cn : Int) := by rw [tk 2 (by decide) (by decide) (by decide)]; exact hS2
    have hkp := kp_at (mw T 7 0 (T 2 0)) cn
    have e0 : keepF T = itN cn (fun T i => itN 3 (kpJ i) (kpI T i)) (mw T 7 0 (T 2 0)) := by unfold keepF; rw [hT2, Int.toNat_natCast]
    have hPSR : ∀ i : Nat, i < cn → PSR (keepF T) (i : Int) (3 * (i : Int)) (Z i) := fun i hi => by
      obtain ⟨⟨s1, s2, s3⟩, s4⟩ := gs i hi
      have hti : ∀ k, 3 ≤ k → k ≤ 6 → T k = S k := fun k a b => tk k (by omega) (by omega) (by omega)
      refine keep_PSR hT2 hi (mSt_k (fun k k1 k2 => hti k (by omega) (by omega)) (hst (i : Int) (by omega) (by omega))) (fun l a b => by rw [tk 1 (by decide) (by decide) (by decide)]; exact hd l a b) (pDis_k (fun e _ _ => by rw [hti 6 (by decide) (by decide)]) (re (i : Int) (by omega) (by omega)).2) ⟨s1, by rw [hti 3 (by decide) (by decide)]; exact s2, s3⟩ (STQ_k (tk 1 (by decide) (by decide) (by decide)) (fun k a b => hti k a b) s4)
    rw [e0] at hPSR ⊢
    generalize itN cn (fun T i => itN 3 (kpJ i) (kpI T i)) (mw T 7 0 (T 2 0)) = K at hkp hPSR ⊢
    obtain ⟨k1, -, -, k4, k5⟩ := hkp
    have kk : ∀ k, (k < 7 ∨ 12 < k) → k ≠ 0 → k ≠ 13 → k ≠ 14 → K k = S k := fun k a b c d => by rw [k1 k (by omega), mw_ne k (by omega), tk k b c d]
    have k13 : K 13 = T 13 := by rw [k1 13 (by omega), mw_ne 13 (by decide)]
    have k70 : K 7 0 = (cn : Int) := by rw [k1 7 (by omega), mw_s, hT2]
    have k7e : ∀ e, e ≠ 0 → K 7 e = S 7 e := fun e he => by rw [k1 7 (by omega), mw_e he, tk 7 (by decide) (by decide) (by decide)]
    have ka : ∀ k, 8 ≤ k → k ≤ 10 → ∀ e, 5 ≤ e → K k e = S k e := fun k a b e he => by rw [k4 k a b e (by omega), mw_k (by omega), tk k (by omega) (by omega) (by omega)]
    have kb : ∀ k, 11 ≤ k → k ≤ 12 → ∀ e, 15 ≤ e → K k e = S k e := fun k a b e he => by rw [k5 k a b e (by omega), mw_k (by omega), tk k (by omega) (by omega) (by omega)]
    refine ⟨rfl, fun _ => ⟨TS_k h.1 ⟨k7e 2 (by decide), fun k a b e he => ka k a b e (by omega), fun k a b e he => kb k a b e (by omega)⟩ ?_ (fun k hk => gk k (by omega) (by omega) (by omega)) (by rw [gk 0 (by decide) (by decide) (by decide)]) (fun k hk => kk k (by omega) (by omega) (by omega) (by omega)), ⟨by omega, k70, fun i hi => ?_, by rw [Int.toNat_natCast]; exact gN⟩, hSR K (fun k a b => kk k (by omega) (by omega) (by omega) (by omega)) k13⟩, fun z => absurd hv z, fun k a b => kk k (by omega) (by omega) (by omega) (by omega), kk 15 (by omega) (by decide) (by decide) (by decide)⟩
    · obtain ⟨s1, s2, s3, s4⟩ := h.1.2.2.1
      exact ⟨s1, by rw [k7e 1 (by decide)]; exact s2, fun i hi => PSR_k (ka 8 (by decide) (by decide) _ (by omega)) (ka 9 (by decide) (by decide) _ (by omega)) (ka 10 (by decide) (by decide) _ (by omega)) (fun j _ => kb 11 (by decide) (by decide) _ (by omega)) (fun j _ => kb 12 (by decide) (by decide) _ (by omega)) (s3 i hi), s4⟩
    · rw [show (5 * 0 + (i : Int)) = (i : Int) by omega, show (15 * 0 + 3 * (i : Int)) = 3 * (i : Int) by omega]
      exact hPSR i (by omega)
  · rw [if_neg hv]
    refine ⟨rfl, fun z => absurd z hv, fun _ => ⟨TS_k h.1 (pl2.of fun k _ _ => tk k (by omega) (by omega) (by omega)) (SCH_k h.1.2.2.1 fun k _ _ => tk k (by omega) (by omega) (by omega)) (fun k hk => gk k (by omega) (by omega) (by omega)) (by rw [gk 0 (by decide) (by decide) (by decide)]) (fun k hk => tk k (by omega) (by omega) (by omega)), SCH_k h.2.1 (fun k _ _ => tk k (by omega) (by omega) (by omega)), hSR T (fun k a b => tk k (by omega) (by omega) (by omega)) rfl⟩, fun k a b => tk k (by omega) (by omega) (by omega), tk 15 (by decide) (by decide) (by decide)⟩
/-- what the class plans is what the streams ask -/
theorem STQ_of {C S : mS} {i : Nat} {P : mS} {L : Int} {pt : Int → Int} (hd : ∀ l, 0 ≤ l → l < 6 → C 1 l = S 1 l) (hs : mSt S (i : Int)) (hL : L = ptL (S 6 (3 * (i : Int) + 1)) (S 6 (3 * (i : Int) + 2))) (hpt : ∀ j : Nat, (j : Int) < L → pt (j : Int) = S 6 (3 * (i : Int) + (j : Int))) (h : PSok P (S 3 (i : Int)) (S 4 (i : Int)) (S 5 (i : Int)) L pt (C 1)) : STQ S i P ∧ L = ((lastF S (i : Int) : Nat) : Int) + 1 := by
  obtain ⟨h0, h1, h2, h8, hj⟩ := h
  have eL : L = ((lastF S (i : Int) : Nat) : Int) + 1 := by
    rw [hL]
    obtain ⟨-, -, -, p0, p1, p2, p3⟩ := hs
    unfold ptL lastF
    (repeat' split) <;> omega
  have hb : ∀ j : Nat, j ≤ lastF S (i : Int) → pbg (S 4 (i : Int)) pt (C 1) j = begF S (i : Int) j := fun j => by
    induction j with
    | zero => intro _; rfl
    | succ j ih =>
      intro hjl
      have hp := mSt_path hs (j := j) (by omega)
      show pbg (S 4 (i : Int)) pt (C 1) j + S 4 (i : Int) + C 1 (pt (j : Int)) + 2 = begF S (i : Int) j + S 4 (i : Int) + S 1 (S 6 (3 * (i : Int) + (j : Int))) + 2
      rw [ih (by omega), hpt j (by omega), hd _ hp.1 hp.2]
  refine ⟨⟨h0, h1, h2, by rw [h8, eL], fun j hjl => ?_⟩, eL⟩
  obtain ⟨a, b, c, d⟩ := hj j (by omega)
  have hp := mSt_path hs hjl
  rw [hpt j (by omega)] at a c
  rw [hb j hjl] at b c d
  rw [hd _ hp.1 hp.2] at c
  exact ⟨a, b, c, d⟩
