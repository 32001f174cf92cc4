/-! contracts (walks laid by program) -/
set_option maxRecDepth 100000 in
set_option maxHeartbeats 4000000 in
theorem c_X6_passOneTick {lc : Launch} {dA : Nat → ClassId} {cd : Nat → Nat} {σ0 : hS} {C : mS} {R : cR} (hc : cat dA cd σ0 C R) {n na : Int} {Q Qa : Nat → mS} (hfr : frH dA cd σ0 R n Q na Qa) (hNC : NC Qa (C, n, Q, na)) : gM lc dA yX6_passOneTick (.code yX6_passOneTick cX6_passOneTick 2 none) { frames := 5, cells := 0, slots := 0, locals := 114 } σ0 [.ref (cd 0)] (fun v σ9 => v = none ∧ ∃ R9, cat dA cd σ9 (t1F Qa (C, n, Q, na)).1 R9 ∧ cFr cd σ0 σ9 ∧ ((chC C n na = true → rcH dA cd σ0 R R9 na.toNat Qa) ∧ (chC C n na = false → R9 = R))) nX := by
  refine gM_body (by decide +kernel) (by simp [Value.category]) (Nat.le_of_ble_eq_true rfl) (fun Γ hdA cx rx nx => ?_)
  subst hdA
  have cx : CX lc Γ cX6_passOneTick RX6 2 { frames := 5, cells := 0, slots := 0, locals := 114 } := cx
  show G Γ σ0 0 0 0 [some (.ref (cd 0)), none] []
  have hF : cFr cd σ0 σ0 := cFr.rf
  have hN1 := NC_ch hNC
  obtain ⟨m1, m2, m3, m4, m5⟩ := id hNC
  have hnr := hfr.1.r
  have m1 : 0 ≤ C 0 9 ∧ C 0 9 ≤ 999000 := m1
  have m2 : ∀ i, i < n.toNat → TkW C i ∧ PW (Q i) := m2
  have m3 : ∀ l, l < 6 → PtX C l := m3
  have J18 : ∀ (C1 : mS) (n1 na1 : Int) (Q1 : Nat → mS) (R1 : cR) (σ : hS), chF Qa (C, n, Q, na) = (C1, n1, Q1, na1) → frH (gdA Γ) cd σ0 R1 n1 Q1 na1 Qa → ((chC C n na = true → rcH (gdA Γ) cd σ0 R R1 na.toNat Qa) ∧ (chC C n na = false → R1 = R)) → cat (gdA Γ) cd σ C1 R1 → cFr cd σ0 σ → G Γ σ 0 0 18 [some (.ref (cd 0)), none] [] := by
    intro C1 n1 na1 Q1 R1 σ hch hf1 hrr hc hF
    have hpost : (t1F Qa (C, n, Q, na)).1 = p1C C1 n1 Q1 na1 := by unfold t1F; rw [hch]
    rw [hch] at hN1
    obtain ⟨o1, o2, o3, o4, o5⟩ := hN1
    have o1 : 0 ≤ C1 0 9 ∧ C1 0 9 ≤ 999000 := o1
    have o2 : ∀ i, i < n1.toNat → TkW C1 i ∧ PW (Q1 i) := o2
    have o3 : ∀ l, l < 6 → PtX C1 l := o3
    have o5 : n1 ≤ 5 ∧ na1 ≤ 5 := o5
    obtain ⟨hs6, hs5, hpl⟩ := id hf1
    have htl : tlN n1 = (n1.toNat : Int) := tlN_n
    have hnr1 := hs6.r
    have hPB : ∀ l, l < 6 → PtW (p1B C1 n1 Q1 na1) l := fun l q2 => PtW_bwA (n := n1) (Q := Q1) (C := p1A C1 n1 Q1 na1) (fun l ql => PtX_k (p1A_k (by omega) (by omega)) (p1A_k (by omega) (by omega)) (o3 l ql)) q2
    refine z_al_2_0 (pc := 18) cx dX6_passOneTick_18 ?_
    have J54 : ∀ (T : mS) (x1 : Option Value) (σ : hS), T = (if na1 < 0 then spA n1.toNat Q1 (C1 0 9) C1 else C1) → cat (gdA Γ) cd σ T R1 → cFr cd σ0 σ → G Γ σ 0 0 54 [some (.ref (cd 0)), x1] [] := by
      intro T x1 σ hT hc hF
      have hT13 : ∀ k, (k < 13 ∨ 23 ≤ k) → T k = C1 k := fun k hk => by
        rw [hT]
        split
        · exact spA_k (by omega)
        · rfl
      have hTW : ∀ i, i < n1.toNat → TkW T i := fun i hi => by
        rw [hT]
        split
        · exact TkW_spA (by omega) (by omega) (by omega) (o2 i hi).1
        · exact (o2 i hi).1
      have t09 : T 0 9 = C1 0 9 := by rw [hT13 0 (by omega)]
      refine z_iconst (pc := 54) cx dX6_passOneTick_54 ?_
      refine z_is_2_1 (pc := 55) cx dX6_passOneTick_55 ?_
      have J56 : ∀ (z j : Nat) (T2 : mS) (σ : hS), j + z = n1.toNat → T2 = mvA j Q1 (C1 0 9) T → cat (gdA Γ) cd σ T2 R1 → cFr cd σ0 σ → G Γ σ 0 0 56 [some (.ref (cd 0)), some (.int (iI ((j : Int))))] [] := by
        intro z
        induction z using Nat.strongRecOn with
        | _ z ih =>
        intro j T2 σ hjz hT2 hc hF
        have hI : ∀ k, (∀ i, i < j → k ≠ 13 + i ∧ k ≠ 13 + i + 5) → T2 k = T k := fun k hk => by rw [hT2]; exact mvA_k hk
        have e09 : T2 0 9 = C1 0 9 := by rw [hI 0 (by omega), t09]
        refine z_il_2_1 (pc := 56) cx dX6_passOneTick_56 ?_
        refine z_al_2_0 (pc := 57) cx dX6_passOneTick_57 ?_
        refine s_callV (pc := 58) cx lk_X6_213 (c_X6_talking hc (hs6.fr hF)) hc.x rfl gy_X6_talking ⟨⟨by decide, by decide⟩, by decide, by decide⟩ ⟨rfl, rfl⟩ rfl rfl (Nat.le_of_ble_eq_true rfl) dX6_passOneTick_58 ?_
        show G Γ _ _ _ 61 _ (.int _ :: _)
        refine z_icmp_ge (pc := 61) (tgt := 87) cx (by omega) (by decide) dX6_passOneTick_61 (fun c_61 => ?_) (fun c_61 => ?_)
        · obtain rfl : j = n1.toNat := by omega
          refine z_iconst (pc := 87) cx dX6_passOneTick_87 ?_
          refine z_is_2_1 (pc := 88) cx dX6_passOneTick_88 ?_
          have J89 : ∀ (z j : Nat) (T3 : mS) (σ : hS), j + z = 6 → T3 = itN j (fun T l => bwF T n1 Q1 l) (p1A C1 n1 Q1 na1) → cat (gdA Γ) cd σ T3 R1 → cFr cd σ0 σ → G Γ σ 0 0 89 [some (.ref (cd 0)), some (.int (iI ((j : Int))))] [] := by
            intro z
            induction z using Nat.strongRecOn with
            | _ z ih =>
            intro j T3 σ hjz hT3 hc hF
            have hI : ∀ k, (∀ i, i < j → k ≠ 24 + i ∧ k ≠ 24 + i + 6) → T3 k = p1A C1 n1 Q1 na1 k := fun k hk => by rw [hT3]; exact bwA_k hk
            have e09 : T3 0 9 = C1 0 9 := by rw [hI 0 (by omega), p1A_k (by omega) (by omega)]
            have hPt : ∀ l, j ≤ l → l < 6 → PtX T3 l := fun l q1 q2 => PtX_k (by rw [hI _ (by omega), p1A_k (by omega) (by omega)]) (by rw [hI _ (by omega), p1A_k (by omega) (by omega)]) (o3 l q2)
            refine z_il_2_1 (pc := 89) cx dX6_passOneTick_89 ?_
            refine z_bipush (pc := 90) cx rfl dX6_passOneTick_90 ?_
            refine z_icmp_ge (pc := 92) (tgt := 106) cx (by omega) (by decide) dX6_passOneTick_92 (fun c_92 => ?_) (fun c_92 => ?_)
            · obtain rfl : j = 6 := by omega
              refine z_al_2_0 (pc := 106) cx dX6_passOneTick_106 ?_
              refine g_dup (pc := 107) cx rfl dX6_passOneTick_107 ?_
              refine g_getf (pc := 108) cx fl_X6_134 hc.x rfl dX6_passOneTick_108 ?_
              refine z_iconst (pc := 111) cx dX6_passOneTick_111 ?_
              refine z_iadd (pc := 112) cx dX6_passOneTick_112 ?_
              refine c_put (pc := 113) cx hc hF (by omega) fl_X6_134 rfl rfl (show (9 : Nat) < 10 by decide) (⟨rfl, rfl⟩) (xS9) mw_ne dX6_passOneTick_113 ?_
              intro σ hc hF
              refine z_iconst (pc := 116) cx dX6_passOneTick_116 ?_
              refine z_is_2_1 (pc := 117) cx dX6_passOneTick_117 ?_
              have J118 : ∀ (z j : Nat) (T4 : mS) (σ : hS), j + z = 6 → T4 = itN j (fun T l => etF T l) (mw (p1B C1 n1 Q1 na1) 0 9 (p1B C1 n1 Q1 na1 0 9 + 1)) → cat (gdA Γ) cd σ T4 R1 → cFr cd σ0 σ → G Γ σ 0 0 118 [some (.ref (cd 0)), some (.int (iI ((j : Int))))] [] := by
                intro z
                induction z using Nat.strongRecOn with
                | _ z ih =>
                intro j T4 σ hjz hT4 hc hF
                have hPw : ∀ l, j ≤ l → l < 6 → PtW T4 l := fun l q1 q2 => PtW_k (by rw [hT4, etA_k (by omega), mw_ne _ (by omega)]) (hPB l q2)
                refine z_il_2_1 (pc := 118) cx dX6_passOneTick_118 ?_
                refine z_bipush (pc := 119) cx rfl dX6_passOneTick_119 ?_
                refine z_icmp_ge (pc := 121) (tgt := 139) cx (by omega) (by decide) dX6_passOneTick_121 (fun c_121 => ?_) (fun c_121 => ?_)
                · obtain rfl : j = 6 := by omega
                  subst hT4
                  exact g_return (pc := 139) cx rx (by decide) (by decide) dX6_passOneTick_139 ⟨rfl, R1, by rw [hpost]; exact hc, hF, hrr⟩
                · skip
                  refine z_al_2_0 (pc := 124) cx dX6_passOneTick_124 ?_
                  refine g_getf (pc := 125) cx fl_X6_34 hc.x rfl dX6_passOneTick_125 ?_
                  refine z_il_2_1 (pc := 128) cx dX6_passOneTick_128 ?_
                  refine c_pts (pc := 129) cx hc dX6_passOneTick_129 (by omega) ?_
                  refine c_callV (pc := 130) cx lk_X6_236 (c_X1_endTick hc (by omega) (hPw j (Nat.le_refl _) (by omega))) (hc.pt (by omega)) hF rfl gy_X1_endTick ⟨⟨by decide, by decide⟩, by decide, by decide⟩ ⟨rfl, rfl⟩ rfl rfl (Nat.le_of_ble_eq_true rfl) dX6_passOneTick_130 ?_
                  intro σ hc hF
                  show G Γ _ _ _ 133 _ _
                  refine z_ii_2_1 (pc := 133) cx dX6_passOneTick_133 ?_
                  refine g_goto (pc := 136) (tgt := 118) cx (by decide) dX6_passOneTick_136 ?_
                  exact ih (z - 1) (by omega) (j + 1) _ σ (by omega) (show _ = etF (itN j (fun T l => etF T l) (mw (p1B C1 n1 Q1 na1) 0 9 (p1B C1 n1 Q1 na1 0 9 + 1))) j by rw [← hT4]) hc hF
              exact J118 6 0 _ σ rfl (by rw [hT3]; rfl) hc hF
            · skip
              refine z_al_2_0 (pc := 95) cx dX6_passOneTick_95 ?_
              refine z_il_2_1 (pc := 96) cx dX6_passOneTick_96 ?_
              refine c_callV (pc := 97) cx lk_X6_233 (c_X6_beginWaiting hc (hs6.fr hF) (by omega) (hPt j (Nat.le_refl _) (by omega)) (by omega) (fun i hi => (o2 i hi).2)) hc.x hF rfl gy_X6_beginWaiting ⟨⟨by decide, by decide⟩, by decide, by decide⟩ ⟨rfl, rfl⟩ rfl rfl (Nat.le_of_ble_eq_true rfl) dX6_passOneTick_97 ?_
              intro σ hc hF
              show G Γ _ _ _ 100 _ _
              refine z_ii_2_1 (pc := 100) cx dX6_passOneTick_100 ?_
              refine g_goto (pc := 103) (tgt := 89) cx (by decide) dX6_passOneTick_103 ?_
              exact ih (z - 1) (by omega) (j + 1) _ σ (by omega) (show _ = bwF (itN j (fun T l => bwF T n1 Q1 l) (p1A C1 n1 Q1 na1)) n1 Q1 j by rw [← hT3]) hc hF
          exact J89 6 0 _ σ rfl (show T2 = mvA n1.toNat Q1 (C1 0 9) (if na1 < 0 then spA n1.toNat Q1 (C1 0 9) C1 else C1) by rw [hT2, hT]) hc hF
        · skip
          refine z_al_2_0 (pc := 64) cx dX6_passOneTick_64 ?_
          refine g_getf (pc := 65) cx fl_X6_28 hc.x rfl dX6_passOneTick_65 ?_
          refine z_il_2_1 (pc := 68) cx dX6_passOneTick_68 ?_
          refine c_tks (pc := 69) cx hc dX6_passOneTick_69 (by omega) ?_
          refine z_al_2_0 (pc := 70) cx dX6_passOneTick_70 ?_
          refine g_getf (pc := 71) cx fl_X6_134 hc.x rfl dX6_passOneTick_71 ?_
          rw [e09]
          refine z_al_2_0 (pc := 74) cx dX6_passOneTick_74 ?_
          refine g_getf (pc := 75) cx fl_X6_34 hc.x rfl dX6_passOneTick_75 ?_
          obtain ⟨ai, hR, hp⟩ := hpl j (by omega)
          refine c_callV (pc := 78) cx lk_X6_229 (c_X5_moveFrames hc (by omega) hR (hp.fr hF) (o2 j (by omega)).2 (by omega) (TkW_k (hI _ (by omega)) (hI _ (by omega)) (hTW j (by omega))) (fun l hl => by rw [hI _ (by omega), hT13 _ (by omega)]; exact (o3 l hl).1.1)) (hc.tk (by omega)) hF rfl gy_X5_moveFrames ⟨⟨by decide, by decide⟩, by decide, by decide⟩ ⟨rfl, rfl⟩ rfl rfl (Nat.le_of_ble_eq_true rfl) dX6_passOneTick_78 ?_
          intro σ hc hF
          show G Γ _ _ _ 81 _ _
          refine z_ii_2_1 (pc := 81) cx dX6_passOneTick_81 ?_
          refine g_goto (pc := 84) (tgt := 56) cx (by decide) dX6_passOneTick_84 ?_
          exact ih (z - 1) (by omega) (j + 1) _ σ (by omega) (show _ = mvF (mvA j Q1 (C1 0 9) T) j (Q1 j) (C1 0 9) by rw [← hT2]) hc hF
      exact J56 n1.toNat 0 T _ (by omega) rfl hc hF
    rcases id hs5 with ⟨hr1, hn1⟩ | ⟨a1, hr1, hn1, -⟩
    · skip
      refine g_getf (pc := 19) (v := .null) cx fl_X6_126 hc.x (by show some (va_rf (R1 0 5)) = _; rw [hr1]; rfl) dX6_passOneTick_19 ?_
      refine g_ifnonnullN (pc := 22) cx dX6_passOneTick_22 ?_
      refine z_iconst (pc := 25) cx dX6_passOneTick_25 ?_
      refine z_is_2_1 (pc := 26) cx dX6_passOneTick_26 ?_
      have J27 : ∀ (z j : Nat) (T : mS) (σ : hS), j + z = n1.toNat → T = spA j Q1 (C1 0 9) C1 → cat (gdA Γ) cd σ T R1 → cFr cd σ0 σ → G Γ σ 0 0 27 [some (.ref (cd 0)), some (.int (iI ((j : Int))))] [] := by
        intro z
        induction z using Nat.strongRecOn with
        | _ z ih =>
        intro j T σ hjz hT hc hF
        have hI : ∀ k, (∀ i, i < j → k ≠ 13 + i ∧ k ≠ 13 + i + 5) → T k = C1 k := fun k hk => by rw [hT]; exact spA_k hk
        have e09 : T 0 9 = C1 0 9 := by rw [hI 0 (by omega)]
        refine z_il_2_1 (pc := 27) cx dX6_passOneTick_27 ?_
        refine z_al_2_0 (pc := 28) cx dX6_passOneTick_28 ?_
        refine s_callV (pc := 29) cx lk_X6_213 (c_X6_talking hc (hs6.fr hF)) hc.x rfl gy_X6_talking ⟨⟨by decide, by decide⟩, by decide, by decide⟩ ⟨rfl, rfl⟩ rfl rfl (Nat.le_of_ble_eq_true rfl) dX6_passOneTick_29 ?_
        show G Γ _ _ _ 32 _ (.int _ :: _)
        refine z_icmp_ge (pc := 32) (tgt := 54) cx (by omega) (by decide) dX6_passOneTick_32 (fun c_32 => ?_) (fun c_32 => ?_)
        · obtain rfl : j = n1.toNat := by omega
          exact J54 T _ σ (by rw [hT, if_pos (by omega)]) hc hF
        · skip
          refine z_al_2_0 (pc := 35) cx dX6_passOneTick_35 ?_
          refine g_getf (pc := 36) cx fl_X6_28 hc.x rfl dX6_passOneTick_36 ?_
          refine z_il_2_1 (pc := 39) cx dX6_passOneTick_39 ?_
          refine c_tks (pc := 40) cx hc dX6_passOneTick_40 (by omega) ?_
          refine z_al_2_0 (pc := 41) cx dX6_passOneTick_41 ?_
          refine g_getf (pc := 42) cx fl_X6_134 hc.x rfl dX6_passOneTick_42 ?_
          obtain ⟨ai, hR, hp⟩ := hpl j (by omega)
          rw [e09]
          refine c_callV (pc := 45) cx lk_X6_226 (c_X5_speak hc (by omega) hR (hp.fr hF) (o2 j (by omega)).2 (by omega) (TkW_k (hI _ (by omega)) (hI _ (by omega)) (o2 j (by omega)).1)) (hc.tk (by omega)) hF rfl gy_X5_speak ⟨⟨by decide, by decide⟩, by decide, by decide⟩ ⟨rfl, rfl⟩ rfl rfl (Nat.le_of_ble_eq_true rfl) dX6_passOneTick_45 ?_
          intro σ hc hF
          show G Γ _ _ _ 48 _ _
          refine z_ii_2_1 (pc := 48) cx dX6_passOneTick_48 ?_
          refine g_goto (pc := 51) (tgt := 27) cx (by decide) dX6_passOneTick_51 ?_
          exact ih (z - 1) (by omega) (j + 1) _ σ (by omega) (show _ = spk (spA j Q1 (C1 0 9) C1) j (Q1 j) (C1 0 9) by rw [← hT]) hc hF
      exact J27 n1.toNat 0 C1 _ (by omega) rfl hc hF
    · skip
      refine g_getf (pc := 19) (v := .ref a1) cx fl_X6_126 hc.x (by show some (va_rf (R1 0 5)) = _; rw [hr1]; rfl) dX6_passOneTick_19 ?_
      refine g_ifnonnull (pc := 22) (tgt := 54) cx (by decide) dX6_passOneTick_22 ?_
      exact J54 C1 _ _ (by rw [if_neg (by omega)]) hc hF
  rcases id hfr.2.1 with ⟨hr, hn⟩ | ⟨a, hr, hn, hsc⟩
  · skip
    refine z_al_2_0 (pc := 0) cx dX6_passOneTick_0 ?_
    refine g_getf (pc := 1) (v := .null) cx fl_X6_126 hc.x (by show some (va_rf (R 0 5)) = _; rw [hr]; rfl) dX6_passOneTick_1 ?_
    refine g_ifnullN (pc := 4) (tgt := 18) cx (by decide) dX6_passOneTick_4 ?_
    have hch : chC C n na = false := by unfold chC; rw [decide_eq_false (show ¬ 0 ≤ na by omega)]; rfl
    exact J18 C n na Q R _ (by unfold chF; rw [if_neg (by show ¬ chC C n na = true; rw [hch]; decide)]) hfr ⟨fun q => absurd (hch.symm.trans q) (by decide), fun _ => rfl⟩ hc hF
  · skip
    obtain ⟨arr, A, s0, s1, s2⟩ := id hsc
    refine z_al_2_0 (pc := 0) cx dX6_passOneTick_0 ?_
    refine g_getf (pc := 1) (v := .ref a) cx fl_X6_126 hc.x (by show some (va_rf (R 0 5)) = _; rw [hr]; rfl) dX6_passOneTick_1 ?_
    refine g_ifnull (pc := 4) cx dX6_passOneTick_4 ?_
    refine z_al_2_0 (pc := 7) cx dX6_passOneTick_7 ?_
    refine s_callV (pc := 8) cx lk_X6_219 (c_X6_isTimeToChange hc hfr.1 (by omega) (fun l hl => (m3 l hl).1.2.2) (fun i hi => (m2 i hi).1.2.2.2.1)) hc.x rfl gy_X6_isTimeToChange ⟨⟨by decide, by decide⟩, by decide, by decide⟩ ⟨rfl, rfl⟩ rfl rfl (Nat.le_of_ble_eq_true rfl) dX6_passOneTick_8 ?_
    show G Γ _ _ _ 11 _ (.int _ :: _)
    refine z_if_eq (pc := 11) (tgt := 18) cx (by have := bz_r (itc C n); omega) (by decide) dX6_passOneTick_11 (fun c_11 => ?_) (fun c_11 => ?_)
    · skip
      have hch : chC C n na = false := by unfold chC; rw [bz_0.mp c_11, Bool.and_false]
      exact J18 C n na Q R _ (by unfold chF; rw [if_neg (by show ¬ chC C n na = true; rw [hch]; decide)]) hfr ⟨fun q => absurd (hch.symm.trans q) (by decide), fun _ => rfl⟩ hc hF
    · skip
      refine z_al_2_0 (pc := 14) cx dX6_passOneTick_14 ?_
      refine c_callV (pc := 15) cx lk_X6_223 (c_X6_comeIntoForce hc hr (by omega) s0 s1 s2) hc.x hF rfl gy_X6_comeIntoForce ⟨⟨by decide, by decide⟩, by decide, by decide⟩ ⟨rfl, rfl⟩ rfl rfl (Nat.le_of_ble_eq_true rfl) dX6_passOneTick_15 ?_
      intro σ hc hF
      show G Γ _ _ _ 18 _ _
      have hch : chC C n na = true := by unfold chC; rw [bz_n0.mp c_11, decide_eq_true hn.1]; rfl
      have hrc : rcH (gdA Γ) cd σ0 R (cfR A na.toNat (rwr (rwr R 0 6 (R 0 5)) 0 5 none)) na.toNat Qa := rcH.of (by omega) s2
      exact J18 (cfC C na.toNat) na (-1) Qa _ _ (by unfold chF; rw [if_pos (show chC C n na = true from hch)]) (hfr.ch hrc) ⟨fun _ => hrc, fun q => absurd (hch.symm.trans q) (by decide)⟩ hc hF

set_option maxRecDepth 100000 in
set_option maxHeartbeats 4000000 in
theorem c_X6_tick {lc : Launch} {dA : Nat → ClassId} {cd : Nat → Nat} {σ0 : hS} {C : mS} {R : cR} (hst : lc.stackTraces = false) (hc : cat dA cd σ0 C R) {n na : Int} {Q Qa : Nat → mS} (hfr : frH dA cd σ0 R n Q na Qa) {k : Int} (hk : -2147483648 ≤ k ∧ k ≤ 2147483647) (hN : thT k = 0 → ∀ j : Nat, j < k.toNat → NC Qa (itX Qa j (C, n, Q, na))) : gM lc dA yX6_tick (.code yX6_tick cX6_tick 3 (some .int)) { frames := 6, cells := 1, slots := 6, locals := 135 } σ0 [.ref (cd 0), .int (iI k)] (fun v σ9 => thT k = 0 ∧ ∃ R9, v = some (.int (iI ((itX Qa k.toNat (C, n, Q, na)).1 0 9))) ∧ cat dA cd σ9 (itX Qa k.toNat (C, n, Q, na)).1 R9 ∧ cFr cd σ0 σ9 ∧ frH dA cd σ9 R9 (itX Qa k.toNat (C, n, Q, na)).2.1 (itX Qa k.toNat (C, n, Q, na)).2.2.1 (itX Qa k.toNat (C, n, Q, na)).2.2.2 Qa ∧ R9 0 4 = R 0 4 ∧ R9 2 = R 2) (cX3 σ0 (thT k) E_44 E_112 E_70) := by
  refine gM_body (by decide +kernel) (by simp [Value.category]) (Nat.le_of_ble_eq_true rfl) (fun Γ hdA cx rx nx => ?_)
  subst hdA
  have cx : CX lc Γ cX6_tick RX6 3 { frames := 6, cells := 1, slots := 6, locals := 135 } := cx
  show G Γ σ0 0 0 0 [some (.ref (cd 0)), some (.int (iI k)), none] []
  have hF : cFr cd σ0 σ0 := cFr.rf
  refine z_il_3_1 (pc := 0) cx dX6_tick_0 ?_
  refine z_iconst (pc := 1) cx dX6_tick_1 ?_
  refine z_icmp_lt (pc := 2) (tgt := 12) cx (by omega) (by decide) dX6_tick_2 (fun c_2 => ?_) (fun c_2 => ?_)
  · skip
    exact g_throwS (pc := 12) cx hst rx nx rfl (cls := E_44) (text := T_129) (by simp [gExc]) (by decide +kernel) thr_44 dX6_tick_12 dX6_tick_15 dX6_tick_16 dX6_tick_18 dX6_tick_21 ⟨by decide, Nat.le_of_ble_eq_true rfl, by decide, by decide⟩ ⟨by decide, by decide⟩ (⟨Or.inl ⟨rfl, (by
  unfold thT
  (repeat' split) <;> omega)⟩, rfl⟩)
  · skip
    refine z_il_3_1 (pc := 5) cx dX6_tick_5 ?_
    refine z_sipush (pc := 6) cx rfl dX6_tick_6 ?_
    refine z_icmp_le (pc := 9) (tgt := 22) cx (by omega) (by decide) dX6_tick_9 (fun c_9 => ?_) (fun c_9 => ?_)
    · skip
      have hth : thT k = 0 := (by
        unfold thT
        (repeat' split) <;> omega)
      refine z_iconst (pc := 22) cx dX6_tick_22 ?_
      refine z_is_3_2 (pc := 23) cx dX6_tick_23 ?_
      have J24 : ∀ (z j : Nat) (R1 : cR) (σ : hS), j + z = k.toNat → frH (gdA Γ) cd σ R1 (itX Qa j (C, n, Q, na)).2.1 (itX Qa j (C, n, Q, na)).2.2.1 (itX Qa j (C, n, Q, na)).2.2.2 Qa → (R1 0 4 = R 0 4 ∧ R1 2 = R 2) → cat (gdA Γ) cd σ (itX Qa j (C, n, Q, na)).1 R1 → cFr cd σ0 σ → G Γ σ 0 0 24 [some (.ref (cd 0)), some (.int (iI (k))), some (.int (iI ((j : Int))))] [] := by
        intro z
        induction z using Nat.strongRecOn with
        | _ z ih =>
        intro j R1 σ hjz hf1 hr1 hc hF
        have hj1 : itX Qa (j + 1) (C, n, Q, na) = t1F Qa (itX Qa j (C, n, Q, na)) := rfl
        have hNj : j < k.toNat → NC Qa (itX Qa j (C, n, Q, na)) := hN hth j
        refine z_il_3_2 (pc := 24) cx dX6_tick_24 ?_
        refine z_il_3_1 (pc := 25) cx dX6_tick_25 ?_
        refine z_icmp_ge (pc := 26) (tgt := 39) cx (by omega) (by decide) dX6_tick_26 (fun c_26 => ?_) (fun c_26 => ?_)
        · obtain rfl : j = k.toNat := by omega
          refine z_al_3_0 (pc := 39) cx dX6_tick_39 ?_
          refine g_getf (pc := 40) cx fl_X6_134 hc.x rfl dX6_tick_40 ?_
          exact z_ret (pc := 43) cx rx (by decide) (by decide) dX6_tick_43 ⟨hth, R1, rfl, hc, hF, hf1, hr1.1, hr1.2⟩
        · skip
          have hNj2 := hNj (by omega)
          generalize itX Qa j (C, n, Q, na) = x at hf1 hc hj1 hNj2
          obtain ⟨C1, n1, Q1, na1⟩ := x
          have hf2 : frH (gdA Γ) cd σ R1 n1 Q1 na1 Qa := hf1
          refine z_al_3_0 (pc := 29) cx dX6_tick_29 ?_
          refine g_callV (pc := 30) cx lk_X6_131 (c_X6_passOneTick hc hf2 hNj2) hc.x rfl gy_X6_passOneTick ⟨⟨by decide, by decide⟩, by decide, by decide⟩ rfl (Nat.le_of_ble_eq_true rfl) rfl dX6_tick_30 (fun E σ9 hX => ?_) (fun v9 σ9 hX => ?_)
          · exact hX.elim
          obtain ⟨rfl, R9, hc9, hF9, hrr⟩ := hX
          have hr5 : R9 0 4 = R1 0 4 ∧ R9 2 = R1 2 := by
            cases hq : chC C1 n1 na1 with
            | true => exact ⟨(hrr.1 hq).1, (hrr.1 hq).2.2.2.1⟩
            | false => rw [hrr.2 hq]; exact ⟨rfl, rfl⟩
          show G Γ _ _ _ 33 _ _
          refine z_ii_3_2 (pc := 33) cx dX6_tick_33 ?_
          refine g_goto (pc := 36) (tgt := 24) cx (by decide) dX6_tick_36 ?_
          exact ih (z - 1) (by omega) (j + 1) R9 σ9 (by omega) (by rw [hj1]; exact (t1_fr hf2 hrr).fr hF9) ⟨(hr5.1).trans hr1.1, (hr5.2).trans hr1.2⟩ (by rw [hj1]; exact hc9) (hF.tr hF9)
      exact J24 k.toNat 0 R σ0 (by omega) hfr ⟨rfl, rfl⟩ hc hF
    · skip
      exact g_throwS (pc := 12) cx hst rx nx rfl (cls := E_44) (text := T_129) (by simp [gExc]) (by decide +kernel) thr_44 dX6_tick_12 dX6_tick_15 dX6_tick_16 dX6_tick_18 dX6_tick_21 ⟨by decide, Nat.le_of_ble_eq_true rfl, by decide, by decide⟩ ⟨by decide, by decide⟩ (⟨Or.inl ⟨rfl, (by
  unfold thT
  (repeat' split) <;> omega)⟩, rfl⟩)
