/-! contracts (walks laid by program) -/
set_option maxRecDepth 100000 in
set_option maxHeartbeats 4000000 in
theorem c_X6_build {lc : Launch} {dA : Nat → ClassId} {cd : Nat → Nat} {σ0 : hS} {C : mS} {R : cR} (hst : lc.stackTraces = false) (hc : cat dA cd σ0 C R) {cn : Nat} (hcn : C 0 2 = (cn : Int)) (hcn5 : cn ≤ 5) {sp ss sd sL : Nat → Int} {sP : Nat → Int → Int} (hs : ∀ i, i < cn → ∃ sr, R 2 (i : Int) = some sr ∧ isST dA cd σ0 sr (sp i) (ss i) (sd i) (sL i) (sP i)) (hsr : ∀ i, i < cn → ((1 ≤ sL i ∧ sL i ≤ 3) ∧ (sp i = 8 ∨ sp i = 16 ∨ sp i = 32) ∧ (1 ≤ ss i ∧ ss i ≤ 4) ∧ (1 ≤ sd i ∧ sd i ≤ 60)) ∧ ∀ j : Nat, (j : Int) < sL i → 0 ≤ sP i (j : Int) ∧ sP i (j : Int) < 6) (hdl : ∀ l, 0 ≤ l → l < 6 → 0 ≤ C 1 l ∧ C 1 l ≤ 9) (hsw : SW C) {al : Int} (hal : -2147483648 ≤ al ∧ al ≤ 2147483647) : gM lc dA yX6_build (.code yX6_build cX6_build 4 (some .int)) { frames := 6, cells := 22, slots := 96, locals := 96 } σ0 [.ref (cd 0), .int (iI al)] (fun v σ9 => thBd al = 0 ∧ ∃ (Q : Nat → mS) (R9 : cR), (∀ i, i < cn → PSok (Q i) (sp i) (ss i) (sd i) (sL i) (sP i) (C 1) ∧ Q i 7 0 = 0) ∧ v = some (.int (iI (srun cn al 40002 (sr0 C) Q 0).2.2)) ∧ cat dA cd σ9 (srun cn al 40002 (sr0 C) Q 0).1 R9 ∧ cFr cd σ0 σ9 ∧ (((srun cn al 40002 (sr0 C) Q 0).2.2 = 1 → ∃ a, R9 = rwr R 0 4 (some a) ∧ isSc dA cd σ9 a cn (srun cn al 40002 (sr0 C) Q 0).2.1) ∧ ((srun cn al 40002 (sr0 C) Q 0).2.2 ≠ 1 → R9 = R))) (cX3 σ0 (thBd al) E_44 E_112 E_70) := by
  refine gM_body (by decide +kernel) (by simp [Value.category]) (Nat.le_of_ble_eq_true rfl) (fun Γ hdA cx rx nx => ?_)
  subst hdA
  have cx : CX lc Γ cX6_build RX6 4 { frames := 6, cells := 22, slots := 96, locals := 96 } := cx
  show G Γ σ0 0 0 0 [some (.ref (cd 0)), some (.int (iI al)), none, none] []
  have hF : cFr cd σ0 σ0 := cFr.rf
  refine z_il_4_1 (pc := 0) cx dX6_build_0 ?_
  refine z_if_lt (pc := 1) (tgt := 11) cx (by omega) (by decide) dX6_build_1 (fun c_1 => ?_) (fun c_1 => ?_)
  · skip
    exact g_throwS (pc := 11) cx hst rx nx rfl (cls := E_44) (text := T_82) (by simp [gExc]) (by decide +kernel) thr_44 dX6_build_11 dX6_build_14 dX6_build_15 dX6_build_17 dX6_build_20 ⟨by decide, Nat.le_of_ble_eq_true rfl, by decide, by decide⟩ ⟨by decide, by decide⟩ (⟨Or.inl ⟨rfl, (by
  unfold thBd
  (repeat' split) <;> omega)⟩, rfl⟩)
  · skip
    refine z_il_4_1 (pc := 4) cx dX6_build_4 ?_
    refine z_sipush (pc := 5) cx rfl dX6_build_5 ?_
    refine z_icmp_le (pc := 8) (tgt := 21) cx (by omega) (by decide) dX6_build_8 (fun c_8 => ?_) (fun c_8 => ?_)
    · skip
      have hth : thBd al = 0 := (by
        unfold thBd
        (repeat' split) <;> omega)
      have hal2 : 0 ≤ al ∧ al ≤ 20000 := by omega
      refine z_al_4_0 (pc := 21) cx dX6_build_21 ?_
      refine g_getf (pc := 22) cx fl_X6_66 hc.x rfl dX6_build_22 ?_
      rw [hcn]
      refine g_anew (pc := 25) (C := "GatedLinks$PlannedStream") (t := 2) (N := cn) cx (by simp [gArr]) (TB_at 329 (by decide +kernel) (by decide +kernel)) rfl (fun q => (iI_in (a := (cn : Int)) (N := 6) (by omega) (by omega)) (Or.inl q)) (by rw [iI_cl (by omega), Int.toNat_natCast]) (by omega) (by decide) (by show 0 + cn ≤ 96; omega) dX6_build_25 (fun arr harr => ?_)
      refine g_widen (k := 1) (n := 5) (by decide) (by show 0 + cn ≤ 5; omega) ?_
      have harr0 := harr
      refine z_as_4_2 (pc := 28) cx dX6_build_28 ?_
      refine z_iconst (pc := 29) cx dX6_build_29 ?_
      refine z_is_4_3 (pc := 30) cx dX6_build_30 ?_
      have J31 : ∀ (z j : Nat) (ai : Nat → Nat) (Q : Nat → mS) (f : Nat → Option Nat) (σ : hS), j + z = cn → cat (gdA Γ) cd σ C R → cFr cd σ0 σ → pl cd σ arr (.inl (gdA Γ 2, cn, .inr (.inr (.inr (.inr f))))) → (∀ i, i < j → f i = some (ai i) ∧ σ0 (ai i) = none ∧ isPS (gdA Γ) cd σ (ai i) (Q i) ∧ PSok (Q i) (sp i) (ss i) (sd i) (sL i) (sP i) (C 1) ∧ Q i 7 0 = 0) → (∀ i i1, i < j → i1 < j → ai i = ai i1 → i = i1) → G Γ σ (1 + 4 * j) (5 + 17 * j) 31 [some (.ref (cd 0)), some (.int (iI (al))), some (.ref arr), some (.int (iI ((j : Int))))] [] := by
        intro z
        induction z using Nat.strongRecOn with
        | _ z ih =>
        intro j ai Q f σ hjz hc hF harr hpl hdis
        have hF0 := hF
        refine z_il_4_3 (pc := 31) cx dX6_build_31 ?_
        refine z_al_4_0 (pc := 32) cx dX6_build_32 ?_
        refine g_getf (pc := 33) cx fl_X6_66 hc.x rfl dX6_build_33 ?_
        refine z_icmp_ge (pc := 36) (tgt := 65) cx (by omega) (by decide) dX6_build_36 (fun c_36 => ?_) (fun c_36 => ?_)
        · skip
          obtain rfl : j = cn := by omega
          refine g_widen (k := 21) (n := 90) (by omega) (by omega) ?_
          have hAll : ∀ i, i < j → f i = some (ai i) ∧ isPS (gdA Γ) cd σ (ai i) (Q i) ∧ PW (Q i) := fun i hi => ⟨(hpl i hi).1, (hpl i hi).2.2.1, (hpl i hi).2.2.2.1.pw (hsr i hi).1 (hsr i hi).2 hdl (hpl i hi).2.2.2.2⟩
          refine z_al_4_0 (pc := 65) cx dX6_build_65 ?_
          refine g_getf (pc := 66) cx fl_X6_22 hc.x rfl dX6_build_66 ?_
          refine z_al_4_2 (pc := 69) cx dX6_build_69 ?_
          refine z_il_4_1 (pc := 70) cx dX6_build_70 ?_
          refine g_callV (pc := 71) cx lk_X6_89 (c_X3_run hc hcn5 harr hAll hdis hsw hal2) hc.se rfl gy_X3_run ⟨⟨by decide, by decide⟩, by decide, by decide⟩ rfl (Nat.le_of_ble_eq_true rfl) rfl dX6_build_71 (fun E σ9 hX => ?_) (fun v9 σ9 hX => ?_)
          · exact hX.elim
          obtain ⟨rfl, hc, hQ9, hf9⟩ := hX
          generalize hY : srun j al 40002 (sr0 C) Q 0 = Y at hc hQ9
          obtain ⟨CY, QY, vY⟩ := Y
          have hF9 : cFr cd σ0 σ9 := fun x g1 g2 => (hf9 x (by rw [hF0 x g1 g2]; exact g1) (fun i hi z => g1 (by rw [z]; exact (hpl i hi).2.1)) g2).trans (hF0 x g1 g2)
          have harr9 : pl cd σ9 arr (.inl (gdA Γ 2, j, .inr (.inr (.inr (.inr f))))) := ⟨(hf9 arr (by rw [harr.1]; exact fun z => nomatch z) (fun i hi z => by
            obtain ⟨e, he⟩ := (hpl i hi).2.2.1.self
            have := harr.1
            rw [z, he] at this
            cases this) harr.2).trans harr.1, harr.2⟩
          have hF : cFr cd σ9 σ9 := cFr.rf
          generalize hs4 : σ9 = σ4 at *
          show G Γ _ _ _ 74 _ (.int _ :: _)
          refine z_is_4_3 (pc := 74) cx dX6_build_74 ?_
          refine z_il_4_3 (pc := 75) cx dX6_build_75 ?_
          refine z_iconst (pc := 76) cx dX6_build_76 ?_
          refine z_icmp_ne (pc := 77) (tgt := 92) cx (by show zR vY 1; exact ⟨srun_zr hY, by omega⟩) (by decide) dX6_build_77 (fun c_77 => ?_) (fun c_77 => ?_)
          · skip
            refine z_il_4_3 (pc := 92) cx dX6_build_92 ?_
            first
            | exact z_ret (pc := 93) cx rx (by decide) (by decide) dX6_build_93 ⟨hth, Q, R, fun i hi => ⟨(hpl i hi).2.2.2.1, (hpl i hi).2.2.2.2⟩, by rw [hY], by rw [hY]; exact hc, hF9, fun q => absurd (by rw [hY] at q; exact q) c_77, fun _ => rfl⟩
            | exact z_ret (pc := 93) cx rx (by decide) (by decide) dX6_build_93 ⟨hth, Q, rwr R 0 4 (some q5), fun i hi => ⟨(hpl i hi).2.2.2.1, (hpl i hi).2.2.2.2⟩, by rw [hY], by rw [hY]; exact hc, (hF9.tr hF6).tr hF, fun _ => ⟨q5, rfl, arr, f, (show pl cd σ6 q5 _ from ⟨h91, h5.2⟩).fr hF, (harr9.fr hF6).fr hF, fun i hi => ⟨ai i, (hpl i hi).1, by rw [hY]; exact ((hQ9 i hi).1.fr hF6).fr hF⟩⟩, fun q => absurd c_77 (by rw [hY] at q; exact q)⟩
          · skip
            refine z_al_4_0 (pc := 80) cx dX6_build_80 ?_
            refine c_new (pc := 81) (ci := 2) (fs := [.null]) cx hc hF rfl (TB_at 396 (by decide +kernel) (by decide +kernel)) (TB_at 397 (by decide +kernel) (by decide +kernel)) (TB_at 15 (by decide +kernel) (by decide +kernel)) dfX2 (by decide) (by decide) dX6_build_81 (fun q5 σ5 hq5 hz5 hs5 hc hF h5 => ?_)
            refine g_dup (pc := 84) cx rfl dX6_build_84 ?_
            refine z_al_4_2 (pc := 85) cx dX6_build_85 ?_
            refine g_callI (pc := 86) (As := [.ref arr]) cx lk_X6_95 (c_X2_init (arr := arr) h5.1) rfl gy_X2_init ⟨⟨by decide, by decide⟩, by decide, by decide⟩ rfl (Nat.le_of_ble_eq_true rfl) rfl dX6_build_86 (fun E σ9 hX => hX.elim) (fun v9 σ6 hX => ?_)
            obtain ⟨rfl, h9⟩ := hX
            obtain ⟨h91, h92⟩ := hld1 h9
            have hc : cat (gdA Γ) cd σ6 _ R := hc.ne (fun k hk => h92 _ (fun z => h5.2 k hk z.symm))
            have hF6 : cFr cd σ4 σ6 := fun x g1 g2 => (h92 x (fun z => g1 (by rw [z]; exact hq5))).trans (by rw [hs5, hup_n (fun z => g1 (by rw [z]; exact hq5))])
            have hF : cFr cd σ6 σ6 := cFr.rf
            show G Γ _ _ _ 89 _ [.ref q5, .ref (cd 0)]
            refine c_putR (pc := 89) (r := some q5) cx hc hF (by omega) fl_X6_98 rfl rfl (show (4 : Nat) < 10 by decide) ⟨rfl, rfl⟩ (xR4) rwr_ne dX6_build_89 ?_
            intro σ hc hF
            refine z_il_4_3 (pc := 92) cx dX6_build_92 ?_
            first
            | exact z_ret (pc := 93) cx rx (by decide) (by decide) dX6_build_93 ⟨hth, Q, R, fun i hi => ⟨(hpl i hi).2.2.2.1, (hpl i hi).2.2.2.2⟩, by rw [hY], by rw [hY]; exact hc, hF9, fun q => absurd (by rw [hY] at q; exact q) c_77, fun _ => rfl⟩
            | exact z_ret (pc := 93) cx rx (by decide) (by decide) dX6_build_93 ⟨hth, Q, rwr R 0 4 (some q5), fun i hi => ⟨(hpl i hi).2.2.2.1, (hpl i hi).2.2.2.2⟩, by rw [hY], by rw [hY]; exact hc, (hF9.tr hF6).tr hF, fun _ => ⟨q5, rfl, arr, f, (show pl cd σ6 q5 _ from ⟨h91, h5.2⟩).fr hF, (harr9.fr hF6).fr hF, fun i hi => ⟨ai i, (hpl i hi).1, by rw [hY]; exact ((hQ9 i hi).1.fr hF6).fr hF⟩⟩, fun q => absurd c_77 (by rw [hY] at q; exact q)⟩
        · skip
          refine z_al_4_2 (pc := 39) cx dX6_build_39 ?_
          refine z_il_4_3 (pc := 40) cx dX6_build_40 ?_
          refine c_new (pc := 41) (ci := 0) (fs := [.int (iI 0), .int (iI 0), .int (iI 0), .null, .null, .null, .null, .int (iI 0)]) cx hc hF rfl (TB_at 329 (by decide +kernel) (by decide +kernel)) (TB_at 331 (by decide +kernel) (by decide +kernel)) (TB_at 13 (by decide +kernel) (by decide +kernel)) dfX0 (by show 1 + 4 * j + 1 ≤ 22; omega) (by show 5 + 17 * j + 8 ≤ 96; omega) dX6_build_41 (fun q σn hq hz hsn hc hF h0 => ?_)
          refine g_dup (pc := 44) cx rfl dX6_build_44 ?_
          refine z_al_4_0 (pc := 45) cx dX6_build_45 ?_
          refine g_getf (pc := 46) cx fl_X6_15 hc.x rfl dX6_build_46 ?_
          refine z_il_4_3 (pc := 49) cx dX6_build_49 ?_
          obtain ⟨sr, hR2, pr, t1, t2⟩ := hs j (by omega)
          refine g_aald4 (pc := 50) cx hc.add (iI_in (by omega) (by omega)) dX6_build_50 ?_
          rw [iI_cl (by omega), Int.toNat_natCast, hR2]
          show G Γ _ _ _ 51 _ (.ref sr :: _)
          refine z_al_4_0 (pc := 51) cx dX6_build_51 ?_
          refine g_getf (pc := 52) cx fl_X6_9 hc.x rfl dX6_build_52 ?_
          refine g_callI (pc := 55) (As := [.ref sr, .ref (cd 1)]) cx lk_X6_86 (c_X0_init hc h0.1 h0.2 (t1.fr hF) (t2.fr hF) ⟨(hsr j (by omega)).1.1, (hsr j (by omega)).1.2.1, (hsr j (by omega)).1.2.2.1⟩ (hsr j (by omega)).2 hdl) rfl gy_X0_init ⟨⟨by decide, by decide⟩, by show 1 + 4 * j + 1 + 3 ≤ 22; omega, by show 5 + 17 * j + 8 + 9 ≤ 96; omega⟩ rfl (Nat.le_of_ble_eq_true rfl) rfl dX6_build_55 (fun E σ9 hX => hX.elim) (fun v9 σ9 hX => ?_)
          obtain ⟨rfl, hc, hps9, PP, hPP, hok, h70⟩ := hX
          have hqa : arr ≠ q := fun z => by
            have := harr.1
            rw [z, hq] at this
            cases this
          have hps8 : psFr cd q σ σ9 := fun x g1 g2 g3 => (hps9 x (by rw [hsn, hup_n g2]; exact g1) g2 g3).trans (by rw [hsn, hup_n g2])
          have harr9 : pl cd σ9 arr (.inl (gdA Γ 2, cn, .inr (.inr (.inr (.inr f))))) := ⟨(hps8 arr (by rw [harr.1]; exact fun z => nomatch z) hqa harr.2).trans harr.1, harr.2⟩
          show G Γ _ _ _ 58 _ [.ref q, .int (iI (j : Int)), .ref arr]
          obtain ⟨eq, heq⟩ := hPP.self
          refine g_aast (pc := 58) (ci := 0) (vs := eq.2) cx harr9.1 (by obtain ⟨pa, ba, ea, sa, q0, -⟩ := id hPP; rw [q0.1] at heq; cases heq; exact q0.1) rfl rfl (iI_in (by omega) (by omega)) dX6_build_58 ?_
          rw [iI_cl (by omega), Int.toNat_natCast]
          have hc10 : cat (gdA Γ) cd (hup σ9 arr (.inl (gdA Γ 2, cn, .inr (.inr (.inr (.inr (va_up f j (some q)))))))) C R := hc.ne (fun k hk => hup_n (fun z => harr.2 k hk z.symm))
          have hF10 : cFr cd σ0 (hup σ9 arr (.inl (gdA Γ 2, cn, .inr (.inr (.inr (.inr (va_up f j (some q)))))))) := fun x g1 g2 => by
            rw [hup_n (fun z => g1 (by rw [z]; exact harr0)), hps8 x (by rw [hF0 x g1 g2]; exact g1) (fun z => g1 (by rw [z]; exact hz)) g2]
            exact hF0 x g1 g2
          have hpl10 := bld_next (e := .inl (gdA Γ 2, cn, .inr (.inr (.inr (.inr (va_up f j (some q))))))) hpl hq hz hps8 harr9.1 hPP hok h70
          have hdis10 := bld_dis hpl hdis hq
          refine z_ii_4_3 (pc := 59) cx dX6_build_59 ?_
          refine g_goto (pc := 62) (tgt := 31) cx (by decide) dX6_build_62 ?_
          refine g_widen (k := 1 + 4 * (j + 1)) (n := 5 + 17 * (j + 1)) (by show 1 + 4 * j + 1 + 3 ≤ _; omega) (by show 5 + 17 * j + 8 + 9 ≤ _; omega) ?_
          exact ih (z - 1) (by omega) (j + 1) _ _ _ _ (by omega) hc10 hF10 ⟨hup_s _ _ _, harr.2⟩ hpl10 hdis10
      exact J31 cn 0 (fun _ => 0) (fun _ => C) (fun _ => none) _ (by omega) (hc.up harr) (fun x g1 g2 => hup_n (fun z => g1 (by rw [z]; exact harr))) ⟨hup_s _ _ _, hc.no harr⟩ (fun i hi => absurd hi (Nat.not_lt_zero _)) (fun i _ hi _ => absurd hi (Nat.not_lt_zero _))
    · skip
      exact g_throwS (pc := 11) cx hst rx nx rfl (cls := E_44) (text := T_82) (by simp [gExc]) (by decide +kernel) thr_44 dX6_build_11 dX6_build_14 dX6_build_15 dX6_build_17 dX6_build_20 ⟨by decide, Nat.le_of_ble_eq_true rfl, by decide, by decide⟩ ⟨by decide, by decide⟩ (⟨Or.inl ⟨rfl, (by
  unfold thBd
  (repeat' split) <;> omega)⟩, rfl⟩)
