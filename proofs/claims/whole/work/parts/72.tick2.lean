/-! a tick of both sides -/
theorem VF_mem {S : mS} {n u : Int} (hv : VF S n u) {f : Int} (h0 : 0 ≤ f) (h1 : f < S 23 0) : (S 24 f, S 25 f) ∈ FL S := by
  obtain ⟨k, rfl⟩ : ∃ k : Nat, f = (k : Int) := ⟨f.toNat, by omega⟩
  exact List.mem_map.mpr ⟨k, List.mem_range.mpr (by omega), rfl⟩
theorem ts_nc {C S : mS} {n na : Int} {Q Qa : Nat → mS} (h : TS C S n Q na Qa) (ht : S 15 0 ≤ 999000) : NC Qa (C, n, Q, na) := by
  obtain ⟨⟨h9, h15⟩, h2, h1, htr, hrg, hpr, hvf, hcu⟩ := h
  refine ⟨by show 0 ≤ C 0 9 ∧ C 0 9 ≤ 999000; omega, fun i hi => ?_, fun l hl => ?_, fun i hi => (h1.pw i hi), h2.1.2, h1.1.2⟩
  · have hi : i < n.toNat := hi
    have hn5 := h2.1.2
    refine ⟨?_, h2.pw i hi⟩
    obtain ⟨t1, t2, t3, t5, t6, t7, t8, t4, t9⟩ := htr i (by omega)
    have hr := hrg (i : Int) (by omega) (by omega)
    have hlen := VF_len h2 hvf (by omega) (i : Int)
    have hl := stL_len (C := C) (i := i)
    rw [t9] at hl
    show TkW C i
    refine ⟨?_, ?_, ?_, by omega, fun j j0 j1 => ?_⟩
    · show C (13 + i) 1 = 0 ∨ C (13 + i) 1 = 1
      omega
    · show 0 ≤ C (13 + i) 2 ∧ C (13 + i) 2 ≤ 7
      omega
    · show C (13 + i) 3 = 0 ∨ C (13 + i) 3 = 1
      omega
    · show 0 ≤ C (13 + i + 5) j ∧ C (13 + i + 5) j ≤ 1000000
      have hm : C (13 + i + 5) j ∈ stL C i := stL_mem.mpr ⟨j.toNat, by omega, by congr 1; omega⟩
      rw [t9] at hm
      have hx := hvf.2.1 _ (flS_mem.mp hm)
      have hx : 0 ≤ C (13 + i + 5) j ∧ C (13 + i + 5) j ≤ S 15 0 - 1 := hx.2.1
      omega
  · obtain ⟨⟨a0, a1, a3, a4⟩, ⟨b6, b7, b9⟩, c⟩ := hpr l hl
    refine ⟨⟨?_, ?_, ?_⟩, fun q => ?_⟩
    · show C (24 + l) 0 = 0 ∨ C (24 + l) 0 = 1
      omega
    · show 0 ≤ C (24 + l) 1 ∧ C (24 + l) 1 ≤ 4
      omega
    · show 0 ≤ C (24 + l) 3 ∧ C (24 + l) 3 ≤ 8
      omega
    · have q : 0 < C (24 + l) 1 := q
      have := c 0 (Int.le_refl _) (by omega)
      show 1 ≤ C (24 + l + 6) 0 ∧ C (24 + l + 6) 0 ≤ 8
      omega
theorem ts_fw {C S : mS} {n na : Int} {Q Qa : Nat → mS} (h : TSB C S n Q na Qa) (ht : S 15 0 ≤ 1000000) : FW S := by
  obtain ⟨⟨h9, h15⟩, h2, h1, htr, hrg, hpr, hvf, hcu⟩ := h
  have htot := VF_tot h2 hvf (Int.le_refl _)
  refine ⟨⟨hvf.1, by omega⟩, fun f f0 f1 => ?_, ⟨h15, ht⟩, fun l l0 l1 => ?_⟩
  · obtain ⟨a, b, -⟩ := hvf.2.1 _ (VF_mem hvf f0 f1)
    have a : 0 ≤ S 24 f ∧ S 24 f < n := a
    have b : 0 ≤ S 25 f ∧ S 25 f ≤ S 15 0 := b
    have hn5 := h2.1.2
    obtain ⟨i, hi⟩ : ∃ i : Nat, S 24 f = (i : Int) := ⟨(S 24 f).toNat, by omega⟩
    have hp := h2.2.2.1 i (by omega)
    rw [show (5 * 2 + (i : Int)) = 10 + (i : Int) by omega, show (15 * 2 + 3 * (i : Int)) = 30 + 3 * (i : Int) by omega] at hp
    refine ⟨by omega, by omega, by omega, ?_⟩
    rw [hi]
    exact hp.2.2.2.1
  · obtain ⟨m, rfl⟩ : ∃ m : Nat, l = (m : Int) := ⟨l.toNat, by omega⟩
    have := (hpr m (by omega)).2.1.1
    omega
theorem ts_tick {C S : mS} {n na : Int} {Q Qa : Nat → mS} (h : TS C S n Q na Qa) (ht : S 15 0 ≤ 999000) : TK S ∧ TS (t1F Qa (C, n, Q, na)).1 (tckF S) (t1F Qa (C, n, Q, na)).2.1 (t1F Qa (C, n, Q, na)).2.2.1 (t1F Qa (C, n, Q, na)).2.2.2 Qa ∧ kpS S (tckF S) ∧ (∀ k, 0 < k → k < 13 → (t1F Qa (C, n, Q, na)).1 k = C k) ∧ (∀ e, e ≠ 9 → (t1F Qa (C, n, Q, na)).1 0 e = C 0 e) ∧ tckF S 15 0 = S 15 0 + 1 := by
  have hTKa : TKa S := by
    obtain ⟨⟨h9, h15⟩, h2, h1, htr, hrg, hpr, hvf, hcu⟩ := h
    have htot := VF_tot h2 hvf (by omega)
    refine ⟨by rw [h1.2.1]; exact h1.1, ⟨h15, by omega⟩, ⟨hvf.1, by omega⟩, fun l l0 l1 => ?_⟩
    obtain ⟨m, rfl⟩ : ∃ m : Nat, l = (m : Int) := ⟨l.toNat, by omega⟩
    exact (hpr m (by omega)).2.1.2.2
  obtain ⟨hA, hAk, hAC, hA15⟩ := ts_ch h
  unfold t1F tckF
  rw [show TK S = (TKa S ∧ TKb (tckA S) ∧ FW (tckB (tckA S)) ∧ ∀ l : Nat, l < 6 → TKc (itN l svF (flyF (tckB (tckA S)))) (l : Int)) from rfl]
  generalize chF Qa (C, n, Q, na) = y at hA hAC ⊢
  obtain ⟨C1, n1, Q1, na1⟩ := y
  have hA : TS C1 (tckA S) n1 Q1 na1 Qa := hA
  have hAC : ∀ k, k < 13 ∨ 23 < k → C1 k = C k := hAC
  generalize tckA S = A at hA hAk hA15 ⊢
  have hTKb : TKb A := by
    obtain ⟨⟨h9, h15⟩, h2, h1, htr, hrg, hpr, hvf, hcu⟩ := hA
    have htot := VF_tot h2 hvf (by omega)
    exact ⟨by rw [h1.2.1]; exact h1.1, ⟨h15, by rw [hA15]; omega⟩, h2.mSch, hrg, ⟨hvf.1, by omega⟩⟩
  obtain ⟨hB, hBk, hBC⟩ := ts_tk hA
  have hB15 : tckB A 15 = S 15 := (hBk 15 (by decide) (by decide) (by decide) (by decide) (by decide)).trans hA15
  have eC9 : C1 0 9 = (if na1 < 0 then spA n1.toNat Q1 (C1 0 9) C1 else C1) 0 9 := by rw [hBC 0 (by omega)]
  show (TKa S ∧ TKb A ∧ FW (tckB A) ∧ ∀ l : Nat, l < 6 → TKc (itN l svF (flyF (tckB A))) (l : Int)) ∧ TS (p1C C1 n1 Q1 na1) (mw (itN 6 svF (flyF (tckB A))) 15 0 ((itN 6 svF (flyF (tckB A))) 15 0 + 1)) n1 Q1 na1 Qa ∧ kpS S (mw (itN 6 svF (flyF (tckB A))) 15 0 ((itN 6 svF (flyF (tckB A))) 15 0 + 1)) ∧ (∀ k, 0 < k → k < 13 → p1C C1 n1 Q1 na1 k = C k) ∧ (∀ e, e ≠ 9 → p1C C1 n1 Q1 na1 0 e = C 0 e) ∧ mw (itN 6 svF (flyF (tckB A))) 15 0 ((itN 6 svF (flyF (tckB A))) 15 0 + 1) 15 0 = S 15 0 + 1
  unfold p1C p1B p1A
  rw [show mvA n1.toNat Q1 (C1 0 9) (if na1 < 0 then spA n1.toNat Q1 (C1 0 9) C1 else C1) = mvA n1.toNat Q1 ((if na1 < 0 then spA n1.toNat Q1 (C1 0 9) C1 else C1) 0 9) (if na1 < 0 then spA n1.toNat Q1 (C1 0 9) C1 else C1) by rw [← eC9]]
  clear eC9
  generalize (if na1 < 0 then spA n1.toNat Q1 (C1 0 9) C1 else C1) = C2 at hB hBC ⊢
  generalize tckB A = B at hB hBk hB15 ⊢
  have hFW : FW B := ts_fw hB (by rw [hB15]; omega)
  obtain ⟨m1, m2, m3, m4, m5⟩ := ts_mv hB
  obtain ⟨⟨h9, h15⟩, h2, h1, htr, hrg, hpr, hvf, hcu⟩ := hB
  generalize mvA n1.toNat Q1 (C2 0 9) C2 = C3 at m1 m5 ⊢
  generalize flyF B = F at m1 m2 m3 m4 ⊢
  have f2 : ∀ k, (k ≤ 18 ∨ k = 21 ∨ 26 ≤ k) → F k = B k := fun k hk => m2 k (by omega) (by omega) (by omega) (by omega) (by omega) (by omega)
  have hn5 := h2.1.2
  have c39 : C3 0 9 = F 15 0 := by rw [m5 0 (by omega), f2 15 (by omega)]; exact h9
  have hF15 : F 15 0 = S 15 0 := by rw [f2 15 (by omega), hB15]
  have hs2 : SCH F 2 n1 Q1 := SCH_k h2 (fun r _ _ => f2 r (by omega))
  have hs1 : SCH F 1 na1 Qa := SCH_k h1 (fun r _ _ => f2 r (by omega))
  have hFp : ∀ l : Nat, l < 6 → PR C3 F l := fun l hl => PR_k (m5 _ (by omega)) (m5 _ (by omega)) ⟨by rw [f2 26 (by omega)], by rw [f2 27 (by omega)], by rw [f2 29 (by omega)], by rw [f2 30 (by omega)], fun x _ _ => by rw [f2 28 (by omega)]⟩ (hpr l hl)
  obtain ⟨g1, g2, g3, g4, g5⟩ := ts_sv hs2 c39 (by rw [hF15]; rw [hB15] at h15; omega) hFp (itN 6 svF F 15 0 + 1) (bwA n1 Q1 C3 0 9 + 1)
  have w9 : bwA n1 Q1 C3 0 = C3 0 := bwA_k (by omega)
  have x0 : etA (mw (bwA n1 Q1 C3) 0 9 (bwA n1 Q1 C3 0 9 + 1)) 0 = mw (bwA n1 Q1 C3) 0 9 (bwA n1 Q1 C3 0 9 + 1) 0 := etA_k (by omega)
  have u15 : itN 6 svF F 15 = F 15 := g3 15 (by omega)
  have fl : FL (mw (itN 6 svF F) 15 0 (itN 6 svF F 15 0 + 1)) = FL F := FL_k ((mw_ne 23 (by decide)).trans (g3 23 (by omega))) ((mw_ne 24 (by decide)).trans (g3 24 (by omega))) ((mw_ne 25 (by decide)).trans (g3 25 (by omega)))
  have hrow : ∀ k, k ≠ 15 → (k < 27 ∨ 30 < k) → mw (itN 6 svF F) 15 0 (itN 6 svF F 15 0 + 1) k = F k := fun k a b => (mw_ne k a).trans (g3 k b)
  have h26 : mw (itN 6 svF F) 15 0 (itN 6 svF F 15 0 + 1) 26 = B 26 := (hrow 26 (by decide) (by omega)).trans (f2 26 (by omega))
  have h29 : mw (itN 6 svF F) 15 0 (itN 6 svF F 15 0 + 1) 29 = itN 6 svF F 29 := mw_ne 29 (by decide)
  have e15 : mw (itN 6 svF F) 15 0 (itN 6 svF F 15 0 + 1) 15 0 = S 15 0 + 1 := by rw [mw_s, u15, hF15]
  generalize mw (itN 6 svF F) 15 0 (itN 6 svF F 15 0 + 1) = T at g1 fl hrow h26 h29 e15 ⊢
  have c9 : etA (mw (bwA n1 Q1 C3) 0 9 (bwA n1 Q1 C3 0 9 + 1)) 0 9 = S 15 0 + 1 := by rw [x0, mw_s, w9, c39, hF15]
  have c0 : ∀ e, e ≠ 9 → etA (mw (bwA n1 Q1 C3) 0 9 (bwA n1 Q1 C3 0 9 + 1)) 0 e = C 0 e := fun e he => by rw [x0, mw_e he, w9, m5 0 (by omega), hBC 0 (by omega), hAC 0 (by omega)]
  generalize etA (mw (bwA n1 Q1 C3) 0 9 (bwA n1 Q1 C3 0 9 + 1)) = D at g1 g5 c9 c0 ⊢
  have hstF : ∀ x l, hitP T l x = hitP (mw F 15 0 (B 15 0 + 1)) l x := fun x l => by
    unfold hitP
    have e11 : T 11 = F 11 := hrow 11 (by decide) (by omega)
    have e9 : T 9 = F 9 := hrow 9 (by decide) (by omega)
    have e12 : T 12 = F 12 := hrow 12 (by decide) (by omega)
    have sd : sdR (mw F 15 0 (B 15 0 + 1)) T := fun k k1 k2 => by rw [hrow k (by omega) (by omega), mw_ne k (by omega)]
    have la := laF_sd sd (30 + 3 * x.1)
    rw [la]
    refine anyN_congr (fun j _ => ?_)
    rw [binF_sd sd, e11, e9, e12, e15, mw_s, mw_ne 11 (by decide), mw_ne 9 (by decide), mw_ne 12 (by decide), hB15]
  refine ⟨⟨hTKa, hTKb, hFW, g2⟩, ⟨⟨by rw [c9, e15], by rw [e15]; rw [hB15] at h15; omega⟩, SCH_k hs2 (fun r _ _ => hrow r (by omega) (by omega)), SCH_k hs1 (fun r _ _ => hrow r (by omega) (by omega)), fun i hi => ?_, ?_, g1, ?_, fun l l0 l1 hl => ?_⟩, ?_, fun k k0 k1 => by rw [g5 k (by omega) (by omega), m5 k (by omega), hBC k (by omega), hAC k (by omega)], c0, e15⟩
  · refine TR_k (g5 _ (by omega) (by omega)) (g5 _ (by omega) (by omega)) (fun k k1 k2 => by rw [hrow k (by omega) (by omega)]) (by unfold flS; rw [fl]) (m1 i hi)
  · intro i i0 i1
    rw [hrow 17 (by decide) (by omega), hrow 16 (by decide) (by omega), hrow 18 (by decide) (by omega), f2 17 (by omega), f2 16 (by omega), f2 18 (by omega)]
    exact hrg i i0 i1
  · have hv := m3
    rw [show S 15 0 = B 15 0 by rw [hB15]] at e15
    rw [e15, show B 15 0 + 1 - 1 = B 15 0 by omega]
    refine ⟨?_, fun x hx => ?_, fun i => ?_⟩
    · rw [hrow 23 (by decide) (by omega)]
      have := hv.1
      rw [mw_k (by decide)] at this
      exact this
    · rw [fl] at hx
      have flm : FL (mw F 15 0 (B 15 0 + 1)) = FL F := FL_k (mw_ne 23 (by decide)) (mw_ne 24 (by decide)) (mw_ne 25 (by decide))
      obtain ⟨a, b, c, d⟩ := hv.2.1 x (by rw [flm]; exact hx)
      have sd : sdR (mw F 15 0 (B 15 0 + 1)) T := fun k k1 k2 => by rw [hrow k (by omega) (by omega), mw_ne k (by omega)]
      rw [e15, latR_sd sd, sd 10 (by decide) (by decide), sd 8 (by decide) (by decide)]
      rw [mw_s] at d
      exact ⟨a, b, c, d⟩
    · have := hv.2.2 i
      have flm : FL (mw F 15 0 (B 15 0 + 1)) = FL F := FL_k (mw_ne 23 (by decide)) (mw_ne 24 (by decide)) (mw_ne 25 (by decide))
      unfold flS at this ⊢
      rw [fl]
      rw [flm] at this
      exact this
  · rw [h26] at hl
    refine ⟨?_, fun x hx => ?_⟩
    · obtain ⟨m, rfl⟩ : ∃ m : Nat, l = (m : Int) := ⟨l.toNat, by omega⟩
      rw [h29]
      refine g4 m (by omega) (by rw [f2 26 (by omega)]; exact hl) ?_
      rw [f2 29 (by omega)]
      exact (hcu _ l0 l1 hl).1
    · rw [fl] at hx
      rw [hstF]
      exact m4 l l0 l1 hl x hx
  · refine kpS.tr hAk (kpS.of (fun k hk => ?_))
    rw [hrow k (by omega) (by omega), f2 k (by omega), hBk k (by omega) (by omega) (by omega) (by omega) (by omega)]
/-- many ticks -/
theorem ts_ticks {Qa : Nat → mS} : ∀ (k : Nat) {C S : mS} {n na : Int} {Q : Nat → mS}, TS C S n Q na Qa → S 15 0 + (k : Int) ≤ 999000 → (∀ j, j < k → NC Qa (itX Qa j (C, n, Q, na)) ∧ TK (itN j (fun T _ => tckF T) S)) ∧ TS (itX Qa k (C, n, Q, na)).1 (itN k (fun T _ => tckF T) S) (itX Qa k (C, n, Q, na)).2.1 (itX Qa k (C, n, Q, na)).2.2.1 (itX Qa k (C, n, Q, na)).2.2.2 Qa ∧ kpS S (itN k (fun T _ => tckF T) S) ∧ (∀ j, 0 < j → j < 13 → (itX Qa k (C, n, Q, na)).1 j = C j) ∧ (∀ e, e ≠ 9 → (itX Qa k (C, n, Q, na)).1 0 e = C 0 e) ∧ itN k (fun T _ => tckF T) S 15 0 = S 15 0 + (k : Int)
  | 0, C, S, n, na, Q, h, ht => ⟨fun j hj => absurd hj (Nat.not_lt_zero _), h, kpS.rfl', fun _ _ _ => rfl, fun _ _ => rfl, by show S 15 0 = S 15 0 + ((0 : Nat) : Int); omega⟩
  | k + 1, C, S, n, na, Q, h, ht => by
    obtain ⟨h1, h2, h3, h4, h5, h6⟩ := ts_ticks k h (by omega)
    have e1 : itX Qa (k + 1) (C, n, Q, na) = t1F Qa (itX Qa k (C, n, Q, na)) := rfl
    have e2 : itN (k + 1) (fun T _ => tckF T) S = tckF (itN k (fun T _ => tckF T) S) := rfl
    have hnc := ts_nc h2 (by omega)
    obtain ⟨g1, g2, g3, g4, g5, g6⟩ := ts_tick h2 (by omega)
    rw [e1, e2]
    refine ⟨fun j hj => ?_, g2, h3.tr g3, fun j a b => (g4 j a b).trans (h4 j a b), fun e he => (g5 e he).trans (h5 e he), by rw [g6, h6]; omega⟩
    rcases Nat.lt_succ_iff_lt_or_eq.mp hj with q | q
    · exact h1 j q
    · subst q
      exact ⟨hnc, g1⟩
