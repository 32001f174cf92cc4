/-! contracts (walks laid by program) -/
set_option maxRecDepth 100000 in
set_option maxHeartbeats 4000000 in
theorem c_X3_fits {lc : Launch} {dA : Nat → ClassId} {cd : Nat → Nat} {σ0 : hS} {C : mS} {R : cR} (hc : cat dA cd σ0 C R) {a : Nat} {P : mS} (hp : isPS dA cd σ0 a P) (hw : PW P) {m : Nat} (hm : m < 5) (h4 : 0 ≤ C 4 (m : Int) ∧ C 4 (m : Int) < 32) (h3 : 0 ≤ C 3 0 ∧ C 3 0 < 20000) : gM lc dA yX3_fits (.code yX3_fits cX3_fits 5 (some .boolean)) { frames := 2, cells := 0, slots := 0, locals := 45 } σ0 [.ref (cd 3), .ref a, .int (iI (m : Int))] (fun v σ9 => v = some (.int (iI (bz (fitB C P m)))) ∧ cat dA cd σ9 (fitC C P m) R ∧ isPS dA cd σ9 a (fitP C P m) ∧ psFr cd a σ0 σ9) nX := by
  refine gM_body (by decide +kernel) (by simp [Value.category]) (Nat.le_of_ble_eq_true rfl) (fun Γ hdA cx rx nx => ?_)
  subst hdA
  have cx : CX lc Γ cX3_fits RX3 5 { frames := 2, cells := 0, slots := 0, locals := 45 } := cx
  show G Γ σ0 0 0 0 [some (.ref (cd 3)), some (.ref a), some (.int (iI (m : Int))), none, none] []
  have hF : cFr cd σ0 σ0 := cFr.rf
  obtain ⟨pa, ba, ea, sa, q0, q1, q2, q3, q4⟩ := id hp
  obtain ⟨w8, w0, w1, w2, w3, w7⟩ := id hw
  have wl := (w3 (P 8 0 - 1) (by omega) (by omega)).2.2
  have hlat : latP P = P 5 (P 8 0 - 1) := rfl
  refine z_al_5_0 (pc := 0) cx dX3_fits_0 ?_
  refine g_getf (pc := 1) cx fl_X3_9 hc.se rfl dX3_fits_1 ?_
  refine z_il_5_2 (pc := 4) cx dX3_fits_4 ?_
  refine z_iald (pc := 5) (N := 6) cx (hc.i (k := 4) rfl (by decide) (by decide)) dX3_fits_5 (by omega) ?_
  refine z_is_5_3 (pc := 6) cx dX3_fits_6 ?_
  refine z_al_5_0 (pc := 7) cx dX3_fits_7 ?_
  refine g_getf (pc := 8) cx fl_X3_9 hc.se rfl dX3_fits_8 ?_
  refine z_il_5_2 (pc := 11) cx dX3_fits_11 ?_
  refine g_dup2 (pc := 12) cx rfl rfl dX3_fits_12 ?_
  refine z_iald (pc := 13) (N := 6) cx (hc.i (k := 4) rfl (by decide) (by decide)) dX3_fits_13 (by omega) ?_
  refine z_iconst (pc := 14) cx dX3_fits_14 ?_
  refine z_iadd (pc := 15) cx dX3_fits_15 ?_
  refine c_iast (pc := 16) (L := 6) cx hc hF rfl (by decide) (by omega) dX3_fits_16 (by omega) ?_
  intro σ hc hF
  refine z_al_5_0 (pc := 17) cx dX3_fits_17 ?_
  refine g_dup (pc := 18) cx rfl dX3_fits_18 ?_
  refine g_getf (pc := 19) cx fl_X3_20 hc.se rfl dX3_fits_19 ?_
  refine z_iconst (pc := 22) cx dX3_fits_22 ?_
  refine z_iadd (pc := 23) cx dX3_fits_23 ?_
  refine c_put (pc := 24) cx hc hF (by omega) fl_X3_20 rfl rfl (show (0 : Nat) < 3 by decide) (⟨rfl, rfl⟩) (seS0) mw_ne dX3_fits_24 ?_
  intro σ hc hF
  rw [mw_k (by decide)] at hc
  have hc : cat (gdA Γ) cd _ (fit0 C m) R := hc
  refine z_al_5_1 (pc := 27) cx dX3_fits_27 ?_
  refine s_callV (pc := 28) cx lk_X3_34 (c_X0_latency (hp.fr hF) hw) (q0.fr hF).1 rfl gy_X0_latency ⟨⟨by decide, by decide⟩, by decide, by decide⟩ ⟨rfl, rfl⟩ rfl rfl (Nat.le_of_ble_eq_true rfl) dX3_fits_28 ?_
  show G Γ _ _ _ 31 _ (.int _ :: _)
  refine z_al_5_1 (pc := 31) cx dX3_fits_31 ?_
  refine g_getf (pc := 32) cx fl_X3_38 (q0.fr hF).1 rfl dX3_fits_32 ?_
  refine z_icmp_gt (pc := 35) (tgt := 52) cx (by omega) (by decide) dX3_fits_35 (fun c_35 => ?_) (fun c_35 => ?_)
  · skip
    refine z_iconst (pc := 52) cx dX3_fits_52 ?_
    have hfit : fitB C P m = false := by
      unfold fitB
      first
      | (rw [decide_eq_true (show P 2 0 < latP P by omega)]; rfl)
      | (rw [bz_n0.mp c_49, Bool.or_true]; rfl)
    have hfn : ¬ fitB C P m = true := by rw [hfit]; decide
    exact z_retb (pc := 53) (b := fitB C P m) cx rx (by decide) (by decide) dX3_fits_53 (by rw [hfit]; rfl) ⟨rfl, by unfold fitC; rw [if_neg hfn]; exact hc, by unfold fitP; rw [if_neg hfn]; exact hp.fr hF, psFr.of hF⟩
  · skip
    refine z_al_5_1 (pc := 38) cx dX3_fits_38 ?_
    refine z_il_5_3 (pc := 39) cx dX3_fits_39 ?_
    refine z_al_5_0 (pc := 40) cx dX3_fits_40 ?_
    refine g_getf (pc := 41) cx fl_X3_17 hc.se rfl dX3_fits_41 ?_
    refine z_il_5_2 (pc := 44) cx dX3_fits_44 ?_
    refine c_rows (pc := 45) cx hc dX3_fits_45 (by omega) ?_
    refine m_callS (pc := 46) cx lk_X3_41 (c_X3_isTaken hc (hp.fr hF) hw (by omega)) gy_X3_isTaken ⟨⟨by decide, by decide⟩, by decide, by decide⟩ ⟨rfl, rfl⟩ rfl rfl (Nat.le_of_ble_eq_true rfl) dX3_fits_46 ?_
    show G Γ _ _ _ 49 _ (.int _ :: _)
    rw [itk_0]
    refine z_if_eq (pc := 49) (tgt := 54) cx (by have := bz_r (itk C P m (C 4 (m : Int))); omega) (by decide) dX3_fits_49 (fun c_49 => ?_) (fun c_49 => ?_)
    · skip
      have hfit : fitB C P m = true := by
        unfold fitB
        rw [decide_eq_false (show ¬ P 2 0 < latP P by omega), bz_0.mp c_49]
        rfl
      have hF0 := psFr.of (a := a) hF
      refine z_al_5_1 (pc := 54) cx dX3_fits_54 ?_
      refine z_il_5_3 (pc := 55) cx dX3_fits_55 ?_
      refine c_putP (pc := 56) cx hc (hp.fr hF) fl_X3_45 dX3_fits_56 ?_
      intro σ1 hc hp2 hF1
      obtain ⟨pa2, ba2, ea2, sa2, g0, g1, g2, g3, g4⟩ := id hp2
      have g1 : pl cd σ1 pa2 (.inl (gdA Γ 0, (P 8 0).toNat, .inl (fun j => iI (P 3 (j : Int))))) := g1
      have hw2 : PW (mw P 7 0 (C 4 (m : Int))) := by have := PW_fit (C := C) (m := m) hw h4; unfold fitP at this; rw [if_pos hfit] at this; exact this
      have hF : cFr cd σ1 σ1 := cFr.rf
      refine z_al_5_0 (pc := 59) cx dX3_fits_59 ?_
      refine g_getf (pc := 60) cx fl_X3_17 hc.se rfl dX3_fits_60 ?_
      refine z_il_5_2 (pc := 63) cx dX3_fits_63 ?_
      refine c_rows (pc := 64) cx hc dX3_fits_64 (by omega) ?_
      refine z_iconst (pc := 65) cx dX3_fits_65 ?_
      refine z_al_5_0 (pc := 66) cx dX3_fits_66 ?_
      refine g_getf (pc := 67) cx fl_X3_17 hc.se rfl dX3_fits_67 ?_
      refine z_il_5_2 (pc := 70) cx dX3_fits_70 ?_
      refine z_iconst (pc := 71) cx dX3_fits_71 ?_
      refine z_iadd (pc := 72) cx dX3_fits_72 ?_
      rw [show (m : Int) + 1 = ((m + 1 : Nat) : Int) by omega]
      refine c_rows (pc := 73) cx hc dX3_fits_73 (by omega) ?_
      refine z_iconst (pc := 74) cx dX3_fits_74 ?_
      refine z_bipush (pc := 75) cx rfl dX3_fits_75 ?_
      refine c_copy (pc := 77) cx rfl hc hF (by omega) (TB_at 393 (by decide +kernel) (by decide +kernel)) (TB_at 395 (by decide +kernel) (by decide +kernel)) (TB_at 394 (by decide +kernel) (by decide +kernel)) (TB_at 14 (by decide +kernel) (by decide +kernel)) (by decide) (by decide) dX3_fits_77 ?_
      intro σ hc hF
      refine z_iconst (pc := 80) cx dX3_fits_80 ?_
      refine z_is_5_4 (pc := 81) cx dX3_fits_81 ?_
      have J83 : ∀ (z j : Nat) (T : mS) (σ : hS), j + z = (P 8 0).toNat → T = itN j (fit1 m P (C 4 (m : Int))) (rowC (fit0 C m) m) → cat (gdA Γ) cd σ T R → cFr cd σ1 σ → G Γ σ 0 0 83 [some (.ref (cd 3)), some (.ref a), some (.int (iI (m : Int))), some (.int (iI (C 4 (m : Int)))), some (.int (iI (j : Int)))] [] := by
        intro z
        induction z using Nat.strongRecOn with
        | _ z ih =>
        intro j T σ hjz hT hc hF
        refine z_il_5_4 (pc := 83) cx dX3_fits_83 ?_
        refine z_al_5_1 (pc := 85) cx dX3_fits_85 ?_
        refine g_getf (pc := 86) cx fl_X3_54 (g0.fr hF).1 rfl dX3_fits_86 ?_
        refine g_len (pc := 89) (t := 0) (v := iI (P 8 0)) cx (g1.fr hF).1 rfl (by rw [← Int32.ofInt_eq_ofNat]; show iI _ = _; rw [Int.toNat_of_nonneg (by omega)]) dX3_fits_89 ?_
        refine z_icmp_ge (pc := 90) (tgt := 125) cx (by omega) (by decide) dX3_fits_90 (fun c_90 => ?_) (fun c_90 => ?_)
        · obtain rfl : j = (P 8 0).toNat := by omega
          refine z_iconst (pc := 125) cx dX3_fits_125 ?_
          exact z_retb (pc := 126) (b := fitB C P m) cx rx (by decide) (by decide) dX3_fits_126 (by rw [hfit]; rfl) ⟨rfl, by unfold fitC; rw [if_pos hfit, ← hT]; exact hc, by unfold fitP; rw [if_pos hfit]; exact hp2.fr hF, (hF0.tr hF1).tr (psFr.of hF)⟩
        · skip
          have w3j := w3 (j : Int) (by omega) (by omega)
          refine z_al_5_0 (pc := 93) cx dX3_fits_93 ?_
          refine g_getf (pc := 94) cx fl_X3_17 hc.se rfl dX3_fits_94 ?_
          refine z_il_5_2 (pc := 97) cx dX3_fits_97 ?_
          refine z_iconst (pc := 98) cx dX3_fits_98 ?_
          refine z_iadd (pc := 99) cx dX3_fits_99 ?_
          rw [show (m : Int) + 1 = ((m + 1 : Nat) : Int) by omega]
          refine c_rows (pc := 100) cx hc dX3_fits_100 (by omega) ?_
          refine z_al_5_1 (pc := 101) cx dX3_fits_101 ?_
          refine g_getf (pc := 102) cx fl_X3_54 (g0.fr hF).1 rfl dX3_fits_102 ?_
          refine z_il_5_4 (pc := 105) cx dX3_fits_105 ?_
          refine z_iald (pc := 107) (N := (P 8 0).toNat) cx (g1.fr hF).1 dX3_fits_107 (by omega) ?_
          refine g_dup2 (pc := 108) cx rfl rfl dX3_fits_108 ?_
          refine z_iald (pc := 109) (N := 6) cx (hc.row (by omega)) dX3_fits_109 (by omega) ?_
          refine z_al_5_1 (pc := 110) cx dX3_fits_110 ?_
          refine z_il_5_4 (pc := 111) cx dX3_fits_111 ?_
          refine z_il_5_3 (pc := 113) cx dX3_fits_113 ?_
          refine s_callV (pc := 114) cx lk_X3_57 (c_X0_spansWith (hp2.fr hF) hw2 (show 0 ≤ (j : Int) ∧ (j : Int) < P 8 0 by omega)) (g0.fr hF).1 rfl gy_X0_spansWith ⟨⟨by decide, by decide⟩, by decide, by decide⟩ ⟨rfl, rfl⟩ rfl rfl (Nat.le_of_ble_eq_true rfl) dX3_fits_114 ?_
          show G Γ _ _ _ 117 _ (.int _ :: _)
          refine g_ior (pc := 117) cx dX3_fits_117 ?_
          rw [← iI_toI (x := _ ||| _)]
          refine c_iast (pc := 118) (L := 6) cx hc hF (cIL_row (by omega)) (by decide) (by omega) dX3_fits_118 (by omega) ?_
          intro σ hc hF
          refine z_ii_5_4 (pc := 119) cx dX3_fits_119 ?_
          refine g_goto (pc := 122) (tgt := 83) cx (by decide) dX3_fits_122 ?_
          exact ih (z - 1) (by omega) (j + 1) _ σ (by omega) (show _ = fit1 m P (C 4 (m : Int)) (itN j (fit1 m P (C 4 (m : Int))) (rowC (fit0 C m) m)) j by rw [← hT]; rfl) hc hF
      exact J83 (P 8 0).toNat 0 _ _ (by omega) rfl hc hF
    · skip
      refine z_iconst (pc := 52) cx dX3_fits_52 ?_
      have hfit : fitB C P m = false := by
        unfold fitB
        first
        | (rw [decide_eq_true (show P 2 0 < latP P by omega)]; rfl)
        | (rw [bz_n0.mp c_49, Bool.or_true]; rfl)
      have hfn : ¬ fitB C P m = true := by rw [hfit]; decide
      exact z_retb (pc := 53) (b := fitB C P m) cx rx (by decide) (by decide) dX3_fits_53 (by rw [hfit]; rfl) ⟨rfl, by unfold fitC; rw [if_neg hfn]; exact hc, by unfold fitP; rw [if_neg hfn]; exact hp.fr hF, psFr.of hF⟩
