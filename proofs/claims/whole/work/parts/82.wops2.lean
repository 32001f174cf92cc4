/-! stream and build, over both worlds -/
section WOPS2
variable {lc : Launch} {dA : Nat → ClassId} {cd : Nat → Nat} {σ1 : hS} {S : mS} {tm : Int} {o : Nat} {f0 : Nat → Int64}
theorem str_0 {p s d a b c : Int} : strS S p s d a b c 0 0 = thSm S p s d a b c := by
  unfold strS
  split
  · rw [mw_k (by decide), mw_k (by decide), mw_k (by decide), mw_k (by decide), mw_k (by decide), mw_k (by decide), mw_k (by decide), mw_s]
  · exact mw_s
theorem w_stream (hst : lc.stackTraces = false) {x : Nat} (hx : x = cd 0) (hw : WS dA cd σ1 S tm) (hoo : σ1 o = none) {p s d a b c : Int} (hr : ((-2147483648 ≤ p ∧ p ≤ 2147483647) ∧ (-2147483648 ≤ s ∧ s ≤ 2147483647) ∧ (-2147483648 ≤ d ∧ d ≤ 2147483647) ∧ (-2147483648 ≤ a ∧ a ≤ 2147483647) ∧ (-2147483648 ≤ b ∧ b ≤ 2147483647) ∧ (-2147483648 ≤ c ∧ c ≤ 2147483647))) : gM lc dA yL_stream (.codeWith yL_stream cL_stream 9 (some .int) hh_L_stream) { frames := 9, cells := 6, slots := 30, locals := 162 } (uni σ1 (one o (lo dA f0))) [.ref x, .int (iI p), .int (iI s), .int (iI d), .int (iI a), .int (iI b), .int (iI c), .ref o] (WP dA cd o (strS S p s d a b c) (tm + 200) fun f => f 0 = (iI (strRt S p s d a b c)).toInt64) nX := by
  subst hx
  obtain ⟨C, R, n4, Q4, na, Qa, n, Q, hc, hm, h4, hfr, hs, hk, ht⟩ := hw
  obtain ⟨-, ⟨rb, rb2⟩, -, re⟩ := hm.2.2
  refine gM_mono (c_L_stream hst hc (by omega) hr hoo) (fun v σ9 h => ?_)
  obtain ⟨rfl, σa, f, rfl, ha, e1, e0⟩ := h
  obtain ⟨m0, m1, m2⟩ := sm_stream hm p s d a b c
  rw [m0] at e1 e0 ⊢
  refine ⟨by rw [str_0], σa, f, rfl, ha, ?_, fun q => ?_⟩
  · by_cases q : thSm S p s d a b c = 0
    · obtain ⟨-, sr, P, k1, k2, k3, k4⟩ := e0 q
      obtain ⟨g1, g2, g15, g20, g3, g6, v3, v4, v5, va, vb, vc⟩ := m2 q
      have r0 : rwr R 2 (C 0 2) (some sr) 0 = R 0 := rwr_ne 0 (by decide)
      refine ⟨_, _, n4, Q4, na, Qa, n, Q, k1, g1, by rw [r0]; exact h4.fr k2, ⟨by rw [r0]; exact hfr.1.fr k2, by rw [r0]; exact hfr.2.1.fr k2, fun i hi => ?_⟩, fun i hi => ?_, K3_k hk (fun k a _ => mw_ne k (by omega)), by rw [g15]; omega⟩
      · obtain ⟨ai, a1, a2⟩ := hfr.2.2 i hi
        exact ⟨ai, by rw [rwr_ne (13 + i) (by omega)]; exact a1, a2.fr k2⟩
      · rw [g20] at hi
        by_cases z : (i : Int) = S 2 0
        · rw [z, v3, v4, v5]
          refine ⟨sr, P, by rw [← rb]; exact rwr_s, ?_, fun j hj => ?_⟩
          · rw [vb, vc]; exact k3
          · rw [vb, vc] at hj
            rw [k4 j hj]
            unfold ptP
            have hj3 : j < 3 := by unfold ptL at hj; (repeat' split at hj) <;> omega
            match j, hj3 with
            | 0, _ => rw [if_pos (show ((0 : Nat) : Int) = 0 from rfl), show (3 * S 2 0 + ((0 : Nat) : Int)) = 3 * S 2 0 by omega, va]
            | 1, _ => rw [if_neg (by decide), if_pos (show ((1 : Nat) : Int) = 1 from rfl), show (3 * S 2 0 + ((1 : Nat) : Int)) = 3 * S 2 0 + 1 by omega, vb]
            | 2, _ => rw [if_neg (by decide), if_neg (by decide), show (3 * S 2 0 + ((2 : Nat) : Int)) = 3 * S 2 0 + 2 by omega, vc]
        · obtain ⟨sr1, P1, b1, b2, b3⟩ := hs i (by omega)
          rw [g3 3 (by decide) (by decide) _ z, g3 4 (by decide) (by decide) _ z, g3 5 (by decide) (by decide) _ z, g6 _ (by omega), g6 _ (by omega)]
          refine ⟨sr1, P1, by rw [rwr_e (by rw [rb]; exact z)]; exact b1, isST_fr b2 k2, fun j hj => ?_⟩
          have hj3 : j < 3 := by unfold ptL at hj; (repeat' split at hj) <;> omega
          rw [g6 _ (by omega)]
          exact b3 j hj
    · rw [e1 q]
      have e : strS S p s d a b c = mw S 0 0 (thSm S p s d a b c) := by unfold strS; rw [if_neg q]
      rw [e]
      exact WS_0 hc (SM_0 hm _) h4 hfr hs rw0.s0 hk ht
  · rw [str_0] at q
    rw [(e0 q).1, (m2 q).2.1]
theorem srun_k {n : Nat} (hn : n ≤ 5) {al : Int} {k : Nat} (hk : 12 ≤ k) : ∀ (z : Nat) (C : mS) (Q : Nat → mS) (t : Int), (srun n al z C Q t).1 k = C k
  | 0, _, _, _ => rfl
  | z + 1, C, Q, t => by
    have hf : ∀ m : Nat, m < 5 → fitC C (Q m) m k = C k := fun m hm => by
      rw [fitC_k (by omega)]
      unfold fit0
      rw [mw_ne k (by omega), mw_ne k (by omega)]
    rw [srun]
    split
    · rfl
    · rename_i hg
      split
      · exact srun_k hn hk z C Q _
      · split
        · rfl
        · split
          · rw [srun_k hn hk z]
            exact (mw_ne k (by omega)).trans (hf _ (by omega))
          · rw [srun_k hn hk z]
            exact hf _ (by omega)
theorem ptL_last {i : Nat} (hs : mSt S (i : Int)) : ptL (S 6 (3 * (i : Int) + 1)) (S 6 (3 * (i : Int) + 2)) = ((lastF S (i : Int) : Nat) : Int) + 1 := by
  obtain ⟨-, -, -, p0, p1, p2, p3⟩ := hs
  unfold ptL lastF
  (repeat' split) <;> omega
theorem w_build (hst : lc.stackTraces = false) {x : Nat} (hx : x = cd 0) (hw : WS dA cd σ1 S tm) (hoo : σ1 o = none) {al : Int} (hal : -2147483648 ≤ al ∧ al ≤ 2147483647) : gM lc dA yL_build (.codeWith yL_build cL_build 4 (some .int) hh_L_build) { frames := 7, cells := 22, slots := 96, locals := 119 } (uni σ1 (one o (lo dA f0))) [.ref x, .int (iI al), .ref o] (WP dA cd o (bldS S al) (tm + 200) fun f => f 0 = (iI (bldR S al)).toInt64) nX := by
  subst hx
  obtain ⟨C, R, n4, Q4, na, Qa, n, Q, hc, hm, h4, hfr, hs, hk, ht⟩ := hw
  obtain ⟨ra, ⟨rb, rb2⟩, ⟨rc, rd⟩, re⟩ := hm.2.2
  obtain ⟨cn, hcn⟩ : ∃ cn : Nat, C 0 2 = (cn : Int) := ⟨(C 0 2).toNat, by omega⟩
  have hS2 : S 2 0 = (cn : Int) := by rw [← rb]; exact hcn
  have hex : ∀ i : Nat, ∃ P : Int → Int, i < cn → ∃ sr : Nat, R 2 (i : Int) = some sr ∧ isST dA cd σ1 sr (S 3 (i : Int)) (S 4 (i : Int)) (S 5 (i : Int)) (ptL (S 6 (3 * (i : Int) + 1)) (S 6 (3 * (i : Int) + 2))) P ∧ ∀ j : Nat, (j : Int) < ptL (S 6 (3 * (i : Int) + 1)) (S 6 (3 * (i : Int) + 2)) → P (j : Int) = S 6 (3 * (i : Int) + (j : Int)) := fun i => by
    by_cases z : i < cn
    · obtain ⟨sr, P, h⟩ := hs i (by omega)
      exact ⟨P, fun _ => ⟨sr, h⟩⟩
    · exact ⟨fun _ => 0, fun y => absurd y z⟩
  obtain ⟨sP, hsP⟩ := Classical.axiomOfChoice hex
  have hmS : ∀ i : Nat, i < cn → mSt S (i : Int) := fun i hi => (re (i : Int) (by omega) (by omega)).1
  refine gM_mono (c_L_build (cn := cn) (sp := fun i => S 3 (i : Int)) (ss := fun i => S 4 (i : Int)) (sd := fun i => S 5 (i : Int)) (sL := fun i => ptL (S 6 (3 * (i : Int) + 1)) (S 6 (3 * (i : Int) + 2))) (sP := sP) hst hc hcn (by omega) (fun i hi => by obtain ⟨sr, a1, a2, -⟩ := hsP i hi; exact ⟨sr, a1, a2⟩) (fun i hi => ?_) (fun l l0 l1 => by rw [(ra l l0 l1).1]; exact ⟨(ra l l0 l1).2.1, (ra l l0 l1).2.2.1⟩) rd hal hoo) (fun v σ9 h => ?_)
  · have hL := ptL_last (hmS i hi)
    have hl := lastF_le S (i : Int)
    obtain ⟨s3, s4, s5, -⟩ := id (hmS i hi)
    refine ⟨⟨by show 1 ≤ ptL _ _ ∧ ptL _ _ ≤ 3; rw [hL]; omega, s3, s4, s5⟩, fun j hj => ?_⟩
    obtain ⟨sr, -, -, a3⟩ := hsP i hi
    rw [a3 j hj]
    have hj : (j : Int) < ptL (S 6 (3 * (i : Int) + 1)) (S 6 (3 * (i : Int) + 2)) := hj
    rw [hL] at hj
    exact mSt_path (hmS i hi) (by omega)
  · obtain ⟨rfl, σa, f, rfl, ha, e1, e0⟩ := h
    have key : thBd al = 0 → WS dA cd σa (bldS S al) (tm + 200) ∧ f 0 = (iI (bldR S al)).toInt64 := fun q => by
      obtain ⟨Z, R9, z1, z2, z3, z4, z5, z6⟩ := e0 q
      obtain ⟨g1, g2, g3, g4, g5⟩ := sm_build hm q hcn (P := Z) (fun i hi => by
        obtain ⟨sr, -, -, a3⟩ := hsP i hi
        exact (STQ_of (fun l l0 l1 => (ra l l0 l1).1) (hmS i hi) rfl a3 (z1 i hi).1).1)
      have k3 : K3 (srun cn al 40002 (sr0 C) Z 0).1 := K3_k hk (fun k a _ => by
        rw [srun_k (by omega) (by omega)]
        unfold sr0
        rw [mw_ne k (by omega), mw_ne k (by omega)])
      refine ⟨?_, by rw [z2, g1]⟩
      by_cases hv : (srun cn al 40002 (sr0 C) Z 0).2.2 = 1
      · obtain ⟨a, y1, y2⟩ := z5 hv
        subst y1
        refine ⟨_, _, (cn : Int), _, na, Qa, n, Q, z3, g2 hv, Or.inr ⟨a, rwr_s, by omega, by rw [Int.toNat_natCast]; exact y2⟩, ⟨by rw [rwr_e (by decide)]; exact hfr.1.fr z4, by rw [rwr_e (by decide)]; exact hfr.2.1.fr z4, fun i hi => ?_⟩, STM_fr hs z4 (rwr_ne 2 (by decide)) (fun k a b => g4 k (by omega) b), k3, by rw [g5]; omega⟩
        obtain ⟨ai, a1, a2⟩ := hfr.2.2 i hi
        exact ⟨ai, by rw [rwr_ne (13 + i) (by omega)]; exact a1, a2.fr z4⟩
      · have y1 := z6 hv
        subst y1
        exact WS_same z3 z4 (g3 hv) h4 hfr hs (fun k a b => g4 k (by omega) b) k3 (by rw [g5]; omega)
    refine ⟨by rw [bld_0], σa, f, rfl, ha, ?_, fun q => ?_⟩
    · by_cases q : thBd al = 0
      · exact (key q).1
      · rw [e1 q]
        have e : bldS S al = mw S 0 0 (thBd al) := by unfold bldS; rw [if_neg q]
        rw [e]
        exact WS_0 hc (SM_0 hm _) h4 hfr hs rw0.s0 hk ht
    · rw [bld_0] at q
      exact (key q).2
end WOPS2
