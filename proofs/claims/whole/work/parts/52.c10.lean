/-! contracts (walks laid by program) -/
set_option maxRecDepth 100000 in
set_option maxHeartbeats 4000000 in
theorem c_X3_run {lc : Launch} {dA : Nat → ClassId} {cd : Nat → Nat} {σ0 : hS} {C : mS} {R : cR} (hc : cat dA cd σ0 C R) {arr n : Nat} {A : Nat → Option Nat} {ai : Nat → Nat} {Q : Nat → mS} (hn : n ≤ 5) (hA : pl cd σ0 arr (.inl (dA 2, n, .inr (.inr (.inr (.inr A)))))) (hAi : ∀ i, i < n → A i = some (ai i) ∧ isPS dA cd σ0 (ai i) (Q i) ∧ PW (Q i)) (hdis : ∀ i j, i < n → j < n → ai i = ai j → i = j) (hsw : SW C) {al : Int} (hal : 0 ≤ al ∧ al ≤ 20000) : gM lc dA yX3_run (.code yX3_run cX3_run 5 (some .int)) { frames := 3, cells := 0, slots := 0, locals := 69 } σ0 [.ref (cd 3), .ref arr, .int (iI al)] (fun v σ9 => v = some (.int (iI (srun n al 40002 (sr0 C) Q 0).2.2)) ∧ cat dA cd σ9 (srun n al 40002 (sr0 C) Q 0).1 R ∧ (∀ i, i < n → isPS dA cd σ9 (ai i) ((srun n al 40002 (sr0 C) Q 0).2.1 i) ∧ PW ((srun n al 40002 (sr0 C) Q 0).2.1 i)) ∧ psFrs cd ai n σ0 σ9) nX := by
  refine gM_body (by decide +kernel) (by simp [Value.category]) (Nat.le_of_ble_eq_true rfl) (fun Γ hdA cx rx nx => ?_)
  subst hdA
  have cx : CX lc Γ cX3_run RX3 5 { frames := 3, cells := 0, slots := 0, locals := 69 } := cx
  show G Γ σ0 0 0 0 [some (.ref (cd 3)), some (.ref arr), some (.int (iI al)), none, none] []
  have hF : cFr cd σ0 σ0 := cFr.rf
  have harr : ∀ i, i < n → arr ≠ ai i := fun i hi z => by
    obtain ⟨e, he⟩ := (hAi i hi).2.1.self
    have := hA.1
    rw [z, he] at this
    cases this
  refine z_al_5_0 (pc := 0) cx dX3_run_0 ?_
  refine z_iconst (pc := 1) cx dX3_run_1 ?_
  refine c_put (pc := 2) cx hc hF (by omega) fl_X3_20 rfl rfl (show (0 : Nat) < 3 by decide) (⟨rfl, rfl⟩) (seS0) mw_ne dX3_run_2 ?_
  intro σ hc hF
  refine z_al_5_0 (pc := 5) cx dX3_run_5 ?_
  refine g_getf (pc := 6) cx fl_X3_9 hc.se rfl dX3_run_6 ?_
  refine z_iconst (pc := 9) cx dX3_run_9 ?_
  refine z_iconst (pc := 10) cx dX3_run_10 ?_
  refine c_iast (pc := 11) (L := 6) cx hc hF rfl (by decide) (by omega) dX3_run_11 (by omega) ?_
  intro σ hc hF
  refine z_iconst (pc := 12) cx dX3_run_12 ?_
  refine z_is_5_3 (pc := 13) cx dX3_run_13 ?_
  refine z_iconst (pc := 14) cx dX3_run_14 ?_
  refine z_is_5_4 (pc := 15) cx dX3_run_15 ?_
  have J17 : ∀ (z k : Nat) (T : mS) (Q1 : Nat → mS) (t : Int) (σ : hS), k + z = 40002 → srun n al z T Q1 t = srun n al 40002 (sr0 C) Q 0 → SW T → (-1 ≤ t ∧ t ≤ (n : Int)) → (∀ i, i < n → isPS (gdA Γ) cd σ (ai i) (Q1 i) ∧ PW (Q1 i)) → psFrs cd ai n σ0 σ → cat (gdA Γ) cd σ T R → G Γ σ 0 0 17 [some (.ref (cd 3)), some (.ref arr), some (.int (iI (al))), some (.int (iI (t))), some (.int (iI ((k : Int))))] [] := by
    intro z
    induction z using Nat.strongRecOn with
    | _ z ih =>
    intro k T Q1 t σ hkz hR hST ht hQ hfr hc
    have s1 : σ arr = some (.inl (gdA Γ 2, n, .inr (.inr (.inr (.inr A))))) := (hfr arr (by rw [hA.1]; exact fun z => nomatch z) harr hA.2).trans hA.1
    have hST3 := hST.1
    refine z_il_5_4 (pc := 17) cx dX3_run_17 ?_
    have J92 : (T, Q1, (if t < 0 then 0 else 1 : Int)) = srun n al 40002 (sr0 C) Q 0 → G Γ σ 0 0 92 [some (.ref (cd 3)), some (.ref arr), some (.int (iI (al))), some (.int (iI (t))), some (.int (iI ((k : Int))))] [] := by
      intro hY
      refine z_il_5_3 (pc := 92) cx dX3_run_92 ?_
      refine z_if_ge (pc := 93) (tgt := 100) cx (by omega) (by decide) dX3_run_93 (fun c_93 => ?_) (fun c_93 => ?_)
      · skip
        refine z_iconst (pc := 100) cx dX3_run_100 ?_
        exact z_ret (pc := 101) cx rx (by decide) (by decide) dX3_run_101 ⟨(by
          rw [← hY]
          show _ = some (Value.int (iI (if t < 0 then 0 else 1)))
          first
          | rw [if_pos (by omega)]
          | rw [if_neg (by omega)]), by rw [← hY]; exact hc, by rw [← hY]; exact hQ, hfr⟩
      · skip
        refine z_iconst (pc := 96) cx dX3_run_96 ?_
        refine g_goto (pc := 97) (tgt := 101) cx (by decide) dX3_run_97 ?_
        exact z_ret (pc := 101) cx rx (by decide) (by decide) dX3_run_101 ⟨(by
          rw [← hY]
          show _ = some (Value.int (iI (if t < 0 then 0 else 1)))
          first
          | rw [if_pos (by omega)]
          | rw [if_neg (by omega)]), by rw [← hY]; exact hc, by rw [← hY]; exact hQ, hfr⟩
    refine g_ldc (pc := 19) (v := iI 40002) cx (TB_at 377 (by decide +kernel) (by decide +kernel)) dX3_run_19 ?_
    refine z_icmp_ge (pc := 21) (tgt := 92) cx (by omega) (by decide) dX3_run_21 (fun c_21 => ?_) (fun c_21 => ?_)
    · skip
      exact J92 (by rw [← hR, show z = 0 by omega]; rfl)
    · skip
      obtain ⟨z1, rfl⟩ : ∃ z1, z = z1 + 1 := ⟨z - 1, by omega⟩
      rw [srun] at hR
      refine z_il_5_3 (pc := 24) cx dX3_run_24 ?_
      refine z_if_lt (pc := 25) (tgt := 92) cx (by omega) (by decide) dX3_run_25 (fun c_25 => ?_) (fun c_25 => ?_)
      · skip
        exact J92 (by rw [if_pos (by omega)] at hR; exact hR)
      · skip
        refine z_il_5_3 (pc := 28) cx dX3_run_28 ?_
        refine z_al_5_1 (pc := 29) cx dX3_run_29 ?_
        refine g_len (pc := 30) (t := 2) (v := iI (n : Int)) cx s1 rfl (Int32.ofInt_eq_ofNat.symm) dX3_run_30 ?_
        refine z_icmp_ge (pc := 31) (tgt := 92) cx (by omega) (by decide) dX3_run_31 (fun c_31 => ?_) (fun c_31 => ?_)
        · skip
          exact J92 (by rw [if_pos (by omega)] at hR; exact hR)
        · skip
          obtain ⟨t1, rfl⟩ : ∃ t1 : Nat, t = (t1 : Int) := ⟨t.toNat, by omega⟩
          have hST4 := hST.2 (t1 : Int) (by omega) (by omega)
          refine z_al_5_0 (pc := 34) cx dX3_run_34 ?_
          refine g_getf (pc := 35) cx fl_X3_9 hc.se rfl dX3_run_35 ?_
          refine z_il_5_3 (pc := 38) cx dX3_run_38 ?_
          refine z_iald (pc := 39) (N := 6) cx (hc.i (k := 4) rfl (by decide) (by decide)) dX3_run_39 (by omega) ?_
          refine z_al_5_1 (pc := 40) cx dX3_run_40 ?_
          refine z_il_5_3 (pc := 41) cx dX3_run_41 ?_
          obtain ⟨hA1, -⟩ := hAi t1 (by omega)
          obtain ⟨hps, hpw⟩ := hQ t1 (by omega)
          obtain ⟨pa, ba, ea, sa, q0, -⟩ := id hps
          refine g_aald2 (pc := 42) cx s1 (iI_in (by omega) (by omega)) dX3_run_42 ?_
          rw [iI_cl (by omega), Int.toNat_natCast, hA1]
          show G Γ _ _ _ 43 _ (.ref (ai t1) :: _)
          have hw0 := hpw.2.1
          have ht5 : t1 < 5 := by omega
          refine g_getf (pc := 43) cx fl_X3_25 q0.1 rfl dX3_run_43 ?_
          refine z_icmp_lt (pc := 46) (tgt := 55) cx (by omega) (by decide) dX3_run_46 (fun c_46 => ?_) (fun c_46 => ?_)
          · skip
            refine z_al_5_0 (pc := 55) cx dX3_run_55 ?_
            refine g_getf (pc := 56) cx fl_X3_20 hc.se rfl dX3_run_56 ?_
            refine z_il_5_2 (pc := 59) cx dX3_run_59 ?_
            refine z_icmp_lt (pc := 60) (tgt := 65) cx (by omega) (by decide) dX3_run_60 (fun c_60 => ?_) (fun c_60 => ?_)
            · skip
              refine z_al_5_0 (pc := 65) cx dX3_run_65 ?_
              refine z_al_5_1 (pc := 66) cx dX3_run_66 ?_
              refine z_il_5_3 (pc := 67) cx dX3_run_67 ?_
              obtain ⟨hA1, -⟩ := hAi t1 (by omega)
              obtain ⟨hps, hpw⟩ := hQ t1 (by omega)
              obtain ⟨pa, ba, ea, sa, q0, -⟩ := id hps
              refine g_aald2 (pc := 68) cx s1 (iI_in (by omega) (by omega)) dX3_run_68 ?_
              rw [iI_cl (by omega), Int.toNat_natCast, hA1]
              show G Γ _ _ _ 69 _ (.ref (ai t1) :: _)
              refine z_il_5_3 (pc := 69) cx dX3_run_69 ?_
              refine g_callV (pc := 70) cx lk_X3_30 (c_X3_fits hc hps hpw (by omega) (by omega) (by omega)) hc.se rfl gy_X3_fits ⟨⟨by decide, by decide⟩, by decide, by decide⟩ rfl (Nat.le_of_ble_eq_true rfl) rfl dX3_run_70 (fun E σ9 hX => ?_) (fun v9 σ9 hX => ?_)
              · exact hX.elim
              obtain ⟨rfl, hc, hps9, hF9⟩ := hX
              have hQ9 := run_ps hQ hdis (by omega) hps9 (PW_fit hpw (by omega)) hF9
              show G Γ _ _ _ 73 _ (.int _ :: _)
              have hST9 : SW (fitC T (Q1 t1) t1) := SW_fit hST (by omega) (by omega)
              have hF : cFr cd σ9 σ9 := cFr.rf
              refine z_if_eq (pc := 73) (tgt := 86) cx (by have := bz_r (fitB T (Q1 t1) t1); omega) (by decide) dX3_run_73 (fun c_73 => ?_) (fun c_73 => ?_)
              · skip
                refine z_ii_5_4 (pc := 86) cx dX3_run_86 ?_
                refine g_goto (pc := 89) (tgt := 17) cx (by decide) dX3_run_89 ?_
                first
                | exact ih z1 (by omega) (k + 1) T Q1 _ σ (by omega) (by rw [if_neg (by omega), Int.toNat_natCast, if_pos (by omega)] at hR; rw [show (t1 : Int) + -1 = (t1 : Int) - 1 by omega]; exact hR) hST (by omega) hQ hfr hc
                | exact ih z1 (by omega) (k + 1) _ _ _ σ (by omega) (by rw [if_neg (by omega), Int.toNat_natCast, if_neg (by omega), if_neg (by omega), if_pos (bz_n0.mp c_73)] at hR; exact hR) (SW_nx hST9) (by omega) (run_fr hQ9 hF) ((hfr.ps (by omega) hF9).c hF) hc
                | exact ih z1 (by omega) (k + 1) _ _ _ σ9 (by omega) (by rw [if_neg (by omega), Int.toNat_natCast, if_neg (by omega), if_neg (by omega), if_neg (by rw [bz_0.mp c_73]; decide)] at hR; exact hR) hST9 (by omega) hQ9 (hfr.ps (by omega) hF9) hc
              · skip
                refine z_ii_5_3 (pc := 76) cx dX3_run_76 ?_
                refine z_al_5_0 (pc := 79) cx dX3_run_79 ?_
                refine g_getf (pc := 80) cx fl_X3_9 hc.se rfl dX3_run_80 ?_
                refine z_il_5_3 (pc := 83) cx dX3_run_83 ?_
                refine z_iconst (pc := 84) cx dX3_run_84 ?_
                refine c_iast (pc := 85) (L := 6) cx hc hF rfl (by decide) (by omega) dX3_run_85 (by omega) ?_
                intro σ hc hF
                refine z_ii_5_4 (pc := 86) cx dX3_run_86 ?_
                refine g_goto (pc := 89) (tgt := 17) cx (by decide) dX3_run_89 ?_
                first
                | exact ih z1 (by omega) (k + 1) T Q1 _ σ (by omega) (by rw [if_neg (by omega), Int.toNat_natCast, if_pos (by omega)] at hR; rw [show (t1 : Int) + -1 = (t1 : Int) - 1 by omega]; exact hR) hST (by omega) hQ hfr hc
                | exact ih z1 (by omega) (k + 1) _ _ _ σ (by omega) (by rw [if_neg (by omega), Int.toNat_natCast, if_neg (by omega), if_neg (by omega), if_pos (bz_n0.mp c_73)] at hR; exact hR) (SW_nx hST9) (by omega) (run_fr hQ9 hF) ((hfr.ps (by omega) hF9).c hF) hc
                | exact ih z1 (by omega) (k + 1) _ _ _ σ9 (by omega) (by rw [if_neg (by omega), Int.toNat_natCast, if_neg (by omega), if_neg (by omega), if_neg (by rw [bz_0.mp c_73]; decide)] at hR; exact hR) hST9 (by omega) hQ9 (hfr.ps (by omega) hF9) hc
            · skip
              refine z_iconst (pc := 63) cx dX3_run_63 ?_
              exact z_ret (pc := 64) cx rx (by decide) (by decide) dX3_run_64 ⟨by rw [if_neg (by omega), Int.toNat_natCast, if_neg (by omega), if_pos (by omega)] at hR; rw [← hR], by rw [if_neg (by omega), Int.toNat_natCast, if_neg (by omega), if_pos (by omega)] at hR; rw [← hR]; exact hc, by rw [if_neg (by omega), Int.toNat_natCast, if_neg (by omega), if_pos (by omega)] at hR; rw [← hR]; exact hQ, hfr⟩
          · skip
            refine z_ii_5_3 (pc := 49) cx dX3_run_49 ?_
            refine g_goto (pc := 52) (tgt := 86) cx (by decide) dX3_run_52 ?_
            refine z_ii_5_4 (pc := 86) cx dX3_run_86 ?_
            refine g_goto (pc := 89) (tgt := 17) cx (by decide) dX3_run_89 ?_
            first
            | exact ih z1 (by omega) (k + 1) T Q1 _ σ (by omega) (by rw [if_neg (by omega), Int.toNat_natCast, if_pos (by omega)] at hR; rw [show (t1 : Int) + -1 = (t1 : Int) - 1 by omega]; exact hR) hST (by omega) hQ hfr hc
            | exact ih z1 (by omega) (k + 1) _ _ _ σ (by omega) (by rw [if_neg (by omega), Int.toNat_natCast, if_neg (by omega), if_neg (by omega), if_pos (bz_n0.mp c_73)] at hR; exact hR) (SW_nx hST9) (by omega) (run_fr hQ9 hF) ((hfr.ps (by omega) hF9).c hF) hc
            | exact ih z1 (by omega) (k + 1) _ _ _ σ9 (by omega) (by rw [if_neg (by omega), Int.toNat_natCast, if_neg (by omega), if_neg (by omega), if_neg (by rw [bz_0.mp c_73]; decide)] at hR; exact hR) hST9 (by omega) hQ9 (hfr.ps (by omega) hF9) hc
  exact J17 40002 0 _ Q 0 _ (by omega) rfl (SW_0 hsw) (by omega) (fun i hi => ⟨(hAi i hi).2.1.fr hF, (hAi i hi).2.2⟩) (fun q h1 _ h3 => hF q h1 h3) hc
