/-! contracts (walks laid by program) -/
set_option maxRecDepth 100000 in
set_option maxHeartbeats 4000000 in
theorem c_X0_init {lc : Launch} {dA : Nat → ClassId} {cd : Nat → Nat} {σ0 : hS} {C : mS} {R : cR} (hc : cat dA cd σ0 C R) {a sr pr : Nat} {p s d L : Int} {P : Int → Int} (h0 : σ0 a = some (.inr (0, [.int (iI 0), .int (iI 0), .int (iI 0), .null, .null, .null, .null, .int (iI 0)]))) (h36 : ∀ k, k < 36 → a ≠ cd k) (h1 : pl cd σ0 sr (.inr (4, [.int (iI p), .int (iI s), .int (iI d), .ref pr]))) (h2 : pl cd σ0 pr (.inl (dA 0, L.toNat, .inl (fun j => iI (P (j : Int)))))) (hr : (1 ≤ L ∧ L ≤ 3) ∧ (p = 8 ∨ p = 16 ∨ p = 32) ∧ (1 ≤ s ∧ s ≤ 4)) (hP : ∀ j : Nat, (j : Int) < L → 0 ≤ P (j : Int) ∧ P (j : Int) < 6) (hdl : ∀ l, 0 ≤ l → l < 6 → 0 ≤ C 1 l ∧ C 1 l ≤ 9) : gM lc dA yX0_init (.code yX0_init cX0_init 5 none) { frames := 1, cells := 3, slots := 9, locals := 40 } σ0 [.ref a, .ref sr, .ref (cd 1)] (fun v σ9 => v = none ∧ cat dA cd σ9 C R ∧ psFr cd a σ0 σ9 ∧ ∃ PP : mS, isPS dA cd σ9 a PP ∧ PSok PP p s d L P (C 1) ∧ PP 7 0 = 0) nX := by
  refine gM_bodyI (by decide +kernel) rfl (by simp [Value.category]) (Nat.le_of_ble_eq_true rfl) (fun Γ hdA cx ix rx nx => ?_)
  subst hdA
  have cx : CX lc Γ cX0_init RX0 5 { frames := 1, cells := 3, slots := 9, locals := 40 } := cx
  show G Γ σ0 0 0 0 [some (.ref a), some (.ref sr), some (.ref (cd 1)), none, none] []
  have hsa : sr ≠ a := fun z => by
    have := h1.1
    rw [z, h0] at this
    cases this
  have hpa : pr ≠ a := fun z => by
    have := h2.1
    rw [z, h0] at this
    cases this
  have hda : cd 1 ≠ a := fun z => h36 1 (by decide) z.symm
  have hd := hld.one h0
  have hpb : ∀ j : Nat, (j : Int) ≤ L → 0 ≤ pbg s P (C 1) j ∧ pbg s P (C 1) j ≤ 15 * (j : Int) := fun j hj => pbg_r hr.2.2 j (fun i hi => hdl _ (hP i (by omega)).1 (hP i (by omega)).2)
  refine z_al_5_0 (pc := 0) cx dX0_init_0 ?_
  refine g_objInit (pc := 1) cx (TB_at 335 (by decide +kernel) (by decide +kernel)) (TB_at 23 (by decide +kernel) (by decide +kernel)) (TB_at 24 (by decide +kernel) (by decide +kernel)) rfl (by decide) (by decide) dX0_init_1 ?_
  refine z_al_5_0 (pc := 4) cx dX0_init_4 ?_
  refine z_al_5_1 (pc := 5) cx dX0_init_5 ?_
  refine g_getf (pc := 6) cx fl_X0_9 (hd.old h1.1 hsa) rfl dX0_init_6 ?_
  refine i_putF (pc := 9) cx ix hd (i := 0) rfl ⟨_, rfl, rfl⟩ fl_X0_15 rfl (show (0 : Nat) < 8 by decide) rfl rfl dX0_init_9 (fun σ hd => ?_)
  have hd : hld σ0 [(a, .inr (0, [.int (iI p), .int (iI 0), .int (iI 0), .null, .null, .null, .null, .int (iI 0)]))] σ := hd
  refine z_al_5_0 (pc := 12) cx dX0_init_12 ?_
  refine z_al_5_1 (pc := 13) cx dX0_init_13 ?_
  refine g_getf (pc := 14) cx fl_X0_18 (hd.old h1.1 hsa) rfl dX0_init_14 ?_
  refine i_putF (pc := 17) cx ix hd (i := 0) rfl ⟨_, rfl, rfl⟩ fl_X0_21 rfl (show (1 : Nat) < 8 by decide) rfl rfl dX0_init_17 (fun σ hd => ?_)
  have hd : hld σ0 [(a, .inr (0, [.int (iI p), .int (iI s), .int (iI 0), .null, .null, .null, .null, .int (iI 0)]))] σ := hd
  refine z_al_5_0 (pc := 20) cx dX0_init_20 ?_
  refine z_al_5_1 (pc := 21) cx dX0_init_21 ?_
  refine g_getf (pc := 22) cx fl_X0_22 (hd.old h1.1 hsa) rfl dX0_init_22 ?_
  refine i_putF (pc := 25) cx ix hd (i := 0) rfl ⟨_, rfl, rfl⟩ fl_X0_25 rfl (show (2 : Nat) < 8 by decide) rfl rfl dX0_init_25 (fun σ hd => ?_)
  have hd : hld σ0 [(a, .inr (0, [.int (iI p), .int (iI s), .int (iI d), .null, .null, .null, .null, .int (iI 0)]))] σ := hd
  refine z_al_5_0 (pc := 28) cx dX0_init_28 ?_
  refine z_al_5_1 (pc := 29) cx dX0_init_29 ?_
  refine g_getf (pc := 30) cx fl_X0_26 (hd.old h1.1 hsa) rfl dX0_init_30 ?_
  refine i_putF (pc := 33) cx ix hd (i := 0) rfl ⟨_, rfl, rfl⟩ fl_X0_30 rfl (show (3 : Nat) < 8 by decide) rfl rfl dX0_init_33 (fun σ hd => ?_)
  have hd : hld σ0 [(a, .inr (0, [.int (iI p), .int (iI s), .int (iI d), .ref pr, .null, .null, .null, .int (iI 0)]))] σ := hd
  refine z_al_5_0 (pc := 36) cx dX0_init_36 ?_
  refine z_al_5_0 (pc := 37) cx dX0_init_37 ?_
  refine g_getf (pc := 38) cx fl_X0_30 (hd.1 0 _ rfl) rfl dX0_init_38 ?_
  refine g_len (pc := 41) (t := 0) (v := iI L) cx (hd.old h2.1 hpa) rfl (by rw [← Int32.ofInt_eq_ofNat]; show iI _ = _; rw [Int.toNat_of_nonneg (by omega)]) dX0_init_41 ?_
  refine i_newa (pc := 42) (atype := .int) (ty := .int) (t := 0) (N := L.toNat) (a0 := (L.toNat, .inl (fun _ => iI 0))) cx hd (Nat.zero_lt_succ _) rfl (TB_at 46 (by decide +kernel) (by decide +kernel)) rfl (nw_int _) (fun q => (iI_in (a := L) (N := 4) (by omega) (by omega)) (Or.inl q)) (by rw [iI_cl (by omega)]) (by show L.toNat * 4 ≤ 536870912; omega) (by decide) (by show 0 + L.toNat ≤ 9; omega) dX0_init_42 (fun q1 σ hd => ?_)
  refine g_widen (k := 1) (n := 3) (by decide) (by omega) ?_
  have hd : hld σ0 [(a, .inr (0, [.int (iI p), .int (iI s), .int (iI d), .ref pr, .null, .null, .null, .int (iI 0)])), (q1, .inl (gdA Γ 0, L.toNat, .inl (fun _ => iI 0)))] σ := hd
  refine i_putF (pc := 44) cx ix hd (i := 0) rfl ⟨_, rfl, rfl⟩ fl_X0_31 rfl (show (4 : Nat) < 8 by decide) rfl rfl dX0_init_44 (fun σ hd => ?_)
  have hd : hld σ0 [(a, .inr (0, [.int (iI p), .int (iI s), .int (iI d), .ref pr, .ref q1, .null, .null, .int (iI 0)])), (q1, .inl (gdA Γ 0, L.toNat, .inl (fun _ => iI 0)))] σ := hd
  refine z_al_5_0 (pc := 47) cx dX0_init_47 ?_
  refine z_al_5_0 (pc := 48) cx dX0_init_48 ?_
  refine g_getf (pc := 49) cx fl_X0_30 (hd.1 0 _ rfl) rfl dX0_init_49 ?_
  refine g_len (pc := 52) (t := 0) (v := iI L) cx (hd.old h2.1 hpa) rfl (by rw [← Int32.ofInt_eq_ofNat]; show iI _ = _; rw [Int.toNat_of_nonneg (by omega)]) dX0_init_52 ?_
  refine i_newa (pc := 53) (atype := .int) (ty := .int) (t := 0) (N := L.toNat) (a0 := (L.toNat, .inl (fun _ => iI 0))) cx hd (Nat.zero_lt_succ _) rfl (TB_at 46 (by decide +kernel) (by decide +kernel)) rfl (nw_int _) (fun q => (iI_in (a := L) (N := 4) (by omega) (by omega)) (Or.inl q)) (by rw [iI_cl (by omega)]) (by show L.toNat * 4 ≤ 536870912; omega) (by decide) (by show 3 + L.toNat ≤ 9; omega) dX0_init_53 (fun q2 σ hd => ?_)
  refine g_widen (k := 2) (n := 6) (by decide) (by omega) ?_
  have hd : hld σ0 [(a, .inr (0, [.int (iI p), .int (iI s), .int (iI d), .ref pr, .ref q1, .null, .null, .int (iI 0)])), (q1, .inl (gdA Γ 0, L.toNat, .inl (fun _ => iI 0))), (q2, .inl (gdA Γ 0, L.toNat, .inl (fun _ => iI 0)))] σ := hd
  refine i_putF (pc := 55) cx ix hd (i := 0) rfl ⟨_, rfl, rfl⟩ fl_X0_34 rfl (show (5 : Nat) < 8 by decide) rfl rfl dX0_init_55 (fun σ hd => ?_)
  have hd : hld σ0 [(a, .inr (0, [.int (iI p), .int (iI s), .int (iI d), .ref pr, .ref q1, .ref q2, .null, .int (iI 0)])), (q1, .inl (gdA Γ 0, L.toNat, .inl (fun _ => iI 0))), (q2, .inl (gdA Γ 0, L.toNat, .inl (fun _ => iI 0)))] σ := hd
  refine z_al_5_0 (pc := 58) cx dX0_init_58 ?_
  refine z_al_5_0 (pc := 59) cx dX0_init_59 ?_
  refine g_getf (pc := 60) cx fl_X0_30 (hd.1 0 _ rfl) rfl dX0_init_60 ?_
  refine g_len (pc := 63) (t := 0) (v := iI L) cx (hd.old h2.1 hpa) rfl (by rw [← Int32.ofInt_eq_ofNat]; show iI _ = _; rw [Int.toNat_of_nonneg (by omega)]) dX0_init_63 ?_
  refine i_newa (pc := 64) (atype := .int) (ty := .int) (t := 0) (N := L.toNat) (a0 := (L.toNat, .inl (fun _ => iI 0))) cx hd (Nat.zero_lt_succ _) rfl (TB_at 46 (by decide +kernel) (by decide +kernel)) rfl (nw_int _) (fun q => (iI_in (a := L) (N := 4) (by omega) (by omega)) (Or.inl q)) (by rw [iI_cl (by omega)]) (by show L.toNat * 4 ≤ 536870912; omega) (by decide) (by show 6 + L.toNat ≤ 9; omega) dX0_init_64 (fun q3 σ hd => ?_)
  refine g_widen (k := 3) (n := 9) (by decide) (by omega) ?_
  have hd : hld σ0 [(a, .inr (0, [.int (iI p), .int (iI s), .int (iI d), .ref pr, .ref q1, .ref q2, .null, .int (iI 0)])), (q1, .inl (gdA Γ 0, L.toNat, .inl (fun _ => iI 0))), (q2, .inl (gdA Γ 0, L.toNat, .inl (fun _ => iI 0))), (q3, .inl (gdA Γ 0, L.toNat, .inl (fun _ => iI 0)))] σ := hd
  refine i_putF (pc := 66) cx ix hd (i := 0) rfl ⟨_, rfl, rfl⟩ fl_X0_37 rfl (show (6 : Nat) < 8 by decide) rfl rfl dX0_init_66 (fun σ hd => ?_)
  have hd : hld σ0 [(a, .inr (0, [.int (iI p), .int (iI s), .int (iI d), .ref pr, .ref q1, .ref q2, .ref q3, .int (iI 0)])), (q1, .inl (gdA Γ 0, L.toNat, .inl (fun _ => iI 0))), (q2, .inl (gdA Γ 0, L.toNat, .inl (fun _ => iI 0))), (q3, .inl (gdA Γ 0, L.toNat, .inl (fun _ => iI 0)))] σ := hd
  refine z_iconst (pc := 69) cx dX0_init_69 ?_
  refine z_is_5_3 (pc := 70) cx dX0_init_70 ?_
  refine z_iconst (pc := 71) cx dX0_init_71 ?_
  refine z_is_5_4 (pc := 72) cx dX0_init_72 ?_
  have J74 : ∀ (z j : Nat) (f4 f5 f6 : Nat → Int32) (σ : hS), j + z = L.toNat → hld σ0 [(a, .inr (0, [.int (iI p), .int (iI s), .int (iI d), .ref pr, .ref q1, .ref q2, .ref q3, .int (iI 0)])), (q1, .inl (gdA Γ 0, L.toNat, .inl (f4))), (q2, .inl (gdA Γ 0, L.toNat, .inl (f5))), (q3, .inl (gdA Γ 0, L.toNat, .inl (f6)))] σ → psF p s P (C 1) f4 f5 f6 j → G Γ σ 3 9 74 [some (.ref a), some (.ref sr), some (.ref (cd 1)), some (.int (iI (pbg s P (C 1) j))), some (.int (iI ((j : Int))))] [] := by
    intro z
    induction z using Nat.strongRecOn with
    | _ z ih =>
    intro j f4 f5 f6 σ hjz hd hf
    have hpj := hpb j (by omega)
    refine z_il_5_4 (pc := 74) cx dX0_init_74 ?_
    refine z_al_5_0 (pc := 76) cx dX0_init_76 ?_
    refine g_getf (pc := 77) cx fl_X0_30 (hd.1 0 _ rfl) rfl dX0_init_77 ?_
    refine g_len (pc := 80) (t := 0) (v := iI L) cx (hd.old h2.1 hpa) rfl (by rw [← Int32.ofInt_eq_ofNat]; show iI _ = _; rw [Int.toNat_of_nonneg (by omega)]) dX0_init_80 ?_
    refine z_icmp_ge (pc := 81) (tgt := 150) cx (by omega) (by decide) dX0_init_81 (fun c_81 => ?_) (fun c_81 => ?_)
    · obtain rfl : j = L.toNat := by omega
      exact g_return (pc := 150) cx rx (by decide) (by decide) dX0_init_150 ⟨rfl, psF_ok hc h0 h36 h2 hpa hd hf (fun i hi => by have := hpb i (by omega); have h3 := hdl _ (hP i hi).1 (hP i hi).2; omega)⟩
    · skip
      have hPj := hP j (by omega)
      have hdj := hdl _ hPj.1 hPj.2
      refine z_al_5_0 (pc := 84) cx dX0_init_84 ?_
      refine g_getf (pc := 85) cx fl_X0_31 (hd.1 0 _ rfl) rfl dX0_init_85 ?_
      refine z_il_5_4 (pc := 88) cx dX0_init_88 ?_
      refine z_il_5_3 (pc := 90) cx dX0_init_90 ?_
      refine i_iast (pc := 91) cx hd (i := 1) rfl (iI_in (by omega) (by omega)) dX0_init_91 (fun σ hd => ?_)
      rw [iI_cl (by omega), Int.toNat_natCast] at hd
      have hd : hld σ0 [(a, .inr (0, [.int (iI p), .int (iI s), .int (iI d), .ref pr, .ref q1, .ref q2, .ref q3, .int (iI 0)])), (q1, .inl (gdA Γ 0, L.toNat, .inl (upd f4 j (iI (pbg s P (C 1) j))))), (q2, .inl (gdA Γ 0, L.toNat, .inl (f5))), (q3, .inl (gdA Γ 0, L.toNat, .inl (f6)))] σ := hd
      refine z_al_5_0 (pc := 92) cx dX0_init_92 ?_
      refine g_getf (pc := 93) cx fl_X0_34 (hd.1 0 _ rfl) rfl dX0_init_93 ?_
      refine z_il_5_4 (pc := 96) cx dX0_init_96 ?_
      refine z_il_5_3 (pc := 98) cx dX0_init_98 ?_
      refine z_al_5_0 (pc := 99) cx dX0_init_99 ?_
      refine g_getf (pc := 100) cx fl_X0_21 (hd.1 0 _ rfl) rfl dX0_init_100 ?_
      refine z_iadd (pc := 103) cx dX0_init_103 ?_
      refine z_al_5_2 (pc := 104) cx dX0_init_104 ?_
      refine z_al_5_0 (pc := 105) cx dX0_init_105 ?_
      refine g_getf (pc := 106) cx fl_X0_30 (hd.1 0 _ rfl) rfl dX0_init_106 ?_
      refine z_il_5_4 (pc := 109) cx dX0_init_109 ?_
      refine z_iald (pc := 111) (N := L.toNat) cx (hd.old h2.1 hpa) dX0_init_111 (by omega) ?_
      refine z_iald (pc := 112) (N := 6) cx (hd.old (hc.i (k := 1) rfl (by decide) (by decide)) hda) dX0_init_112 (by omega) ?_
      refine z_iadd (pc := 113) cx dX0_init_113 ?_
      refine i_iast (pc := 114) cx hd (i := 2) rfl (iI_in (by omega) (by omega)) dX0_init_114 (fun σ hd => ?_)
      rw [iI_cl (by omega), Int.toNat_natCast] at hd
      have hd : hld σ0 [(a, .inr (0, [.int (iI p), .int (iI s), .int (iI d), .ref pr, .ref q1, .ref q2, .ref q3, .int (iI 0)])), (q1, .inl (gdA Γ 0, L.toNat, .inl (upd f4 j (iI (pbg s P (C 1) j))))), (q2, .inl (gdA Γ 0, L.toNat, .inl (upd f5 j (iI (pbg s P (C 1) j + s + C 1 (P (j : Int))))))), (q3, .inl (gdA Γ 0, L.toNat, .inl (f6)))] σ := hd
      refine z_al_5_0 (pc := 115) cx dX0_init_115 ?_
      refine g_getf (pc := 116) cx fl_X0_37 (hd.1 0 _ rfl) rfl dX0_init_116 ?_
      refine z_il_5_4 (pc := 119) cx dX0_init_119 ?_
      refine z_il_5_3 (pc := 121) cx dX0_init_121 ?_
      refine z_al_5_0 (pc := 122) cx dX0_init_122 ?_
      refine g_getf (pc := 123) cx fl_X0_15 (hd.1 0 _ rfl) rfl dX0_init_123 ?_
      refine z_al_5_0 (pc := 126) cx dX0_init_126 ?_
      refine g_getf (pc := 127) cx fl_X0_21 (hd.1 0 _ rfl) rfl dX0_init_127 ?_
      refine m_callS (pc := 130) cx lk_X0_40 (c_X0_spansFrom (by omega)) gy_X0_spansFrom ⟨⟨by decide, by decide⟩, by decide, by decide⟩ ⟨rfl, rfl⟩ rfl rfl (Nat.le_of_ble_eq_true rfl) dX0_init_130 ?_
      show G Γ _ _ _ 133 _ (.int _ :: _)
      refine i_iast (pc := 133) cx hd (i := 3) rfl (iI_in (by omega) (by omega)) dX0_init_133 (fun σ hd => ?_)
      rw [iI_cl (by omega), Int.toNat_natCast] at hd
      have hd : hld σ0 [(a, .inr (0, [.int (iI p), .int (iI s), .int (iI d), .ref pr, .ref q1, .ref q2, .ref q3, .int (iI 0)])), (q1, .inl (gdA Γ 0, L.toNat, .inl (upd f4 j (iI (pbg s P (C 1) j))))), (q2, .inl (gdA Γ 0, L.toNat, .inl (upd f5 j (iI (pbg s P (C 1) j + s + C 1 (P (j : Int))))))), (q3, .inl (gdA Γ 0, L.toNat, .inl (upd f6 j (sfF (pbg s P (C 1) j) p s))))] σ := hd
      refine z_al_5_0 (pc := 134) cx dX0_init_134 ?_
      refine g_getf (pc := 135) cx fl_X0_34 (hd.1 0 _ rfl) rfl dX0_init_135 ?_
      refine z_il_5_4 (pc := 138) cx dX0_init_138 ?_
      refine g_iald (pc := 140) cx (hd.1 2 _ rfl) (iI_in (by omega) (by omega)) dX0_init_140 ?_
      rw [iI_cl (by omega), Int.toNat_natCast, upd_at]
      refine z_iconst (pc := 141) cx dX0_init_141 ?_
      refine z_iadd (pc := 142) cx dX0_init_142 ?_
      refine z_is_5_3 (pc := 143) cx dX0_init_143 ?_
      refine z_ii_5_4 (pc := 144) cx dX0_init_144 ?_
      refine g_goto (pc := 147) (tgt := 74) cx (by decide) dX0_init_147 ?_
      exact ih (z - 1) (by omega) (j + 1) _ _ _ σ (by omega) hd (psF_next hf)
  exact J74 L.toNat 0 _ _ _ σ (by omega) hd (fun i hi => absurd hi (Nat.not_lt_zero _))

set_option maxRecDepth 100000 in
set_option maxHeartbeats 4000000 in
theorem c_X3_isTaken {lc : Launch} {dA : Nat → ClassId} {cd : Nat → Nat} {σ0 : hS} {C : mS} {R : cR} (hc : cat dA cd σ0 C R) {a : Nat} {P : mS} (hp : isPS dA cd σ0 a P) (hw : PW P) {m : Nat} (hm : m < 6) {off : Int} : gM lc dA yX3_isTaken (.code yX3_isTaken cX3_isTaken 4 (some .boolean)) { frames := 1, cells := 0, slots := 0, locals := 22 } σ0 [.ref a, .int (iI off), .ref (cd (6 + m))] (sP σ0 (some (.int (iI (bz (itk C P m off)))))) nX := by
  refine gM_body (by decide +kernel) (by simp [Value.category]) (Nat.le_of_ble_eq_true rfl) (fun Γ hdA cx rx nx => ?_)
  subst hdA
  have cx : CX lc Γ cX3_isTaken RX3 4 { frames := 1, cells := 0, slots := 0, locals := 22 } := cx
  show G Γ σ0 0 0 0 [some (.ref a), some (.int (iI off)), some (.ref (cd (6 + m))), none] []
  obtain ⟨pa, ba, ea, sa, q0, q1, q2, q3, q4⟩ := id hp
  obtain ⟨w8, w0, w1, w2, w3, w7⟩ := id hw
  refine z_iconst (pc := 0) cx dX3_isTaken_0 ?_
  refine z_is_4_3 (pc := 1) cx dX3_isTaken_1 ?_
  have J2 : ∀ (z j : Nat), j + z = (P 8 0).toNat → (∀ h : Nat, h < j → decide (¬ (iI (C (6 + m) (P 3 (h : Int))) &&& spW (P 6 (h : Int)) off = 0)) = false) → G Γ σ0 0 0 2 [some (.ref a), some (.int (iI off)), some (.ref (cd (6 + m))), some (.int (iI (j : Int)))] [] := by
    intro z
    induction z using Nat.strongRecOn with
    | _ z ih =>
    intro j hjz hno
    refine z_il_4_3 (pc := 2) cx dX3_isTaken_2 ?_
    refine z_al_4_0 (pc := 3) cx dX3_isTaken_3 ?_
    refine g_getf (pc := 4) cx fl_X3_54 q0.1 rfl dX3_isTaken_4 ?_
    refine g_len (pc := 7) (t := 0) (v := iI (P 8 0)) cx q1.1 rfl (by rw [← Int32.ofInt_eq_ofNat]; show iI _ = _; rw [Int.toNat_of_nonneg (by omega)]) dX3_isTaken_7 ?_
    refine z_icmp_ge (pc := 8) (tgt := 37) cx (by omega) (by decide) dX3_isTaken_8 (fun c_8 => ?_) (fun c_8 => ?_)
    · skip
      refine z_iconst (pc := 37) cx dX3_isTaken_37 ?_
      exact (z_retb (pc := 38) (b := itk C P m off) cx rx (by decide) (by decide) dX3_isTaken_38 (by rw [itk, anyN_0 (fun k q => hno k (by omega))]; rfl) ⟨rfl, rfl⟩)
    · skip
      have w3j := w3 (j : Int) (by omega) (by omega)
      refine z_al_4_2 (pc := 11) cx dX3_isTaken_11 ?_
      refine z_al_4_0 (pc := 12) cx dX3_isTaken_12 ?_
      refine g_getf (pc := 13) cx fl_X3_54 q0.1 rfl dX3_isTaken_13 ?_
      refine z_il_4_3 (pc := 16) cx dX3_isTaken_16 ?_
      refine z_iald (pc := 17) (N := (P 8 0).toNat) cx q1.1 dX3_isTaken_17 (by omega) ?_
      refine z_iald (pc := 18) (N := 6) cx (hc.row (by omega)) dX3_isTaken_18 (by omega) ?_
      refine z_al_4_0 (pc := 19) cx dX3_isTaken_19 ?_
      refine z_il_4_3 (pc := 20) cx dX3_isTaken_20 ?_
      refine z_il_4_1 (pc := 21) cx dX3_isTaken_21 ?_
      refine s_callV (pc := 22) cx lk_X3_57 (c_X0_spansWith hp hw (by omega)) q0.1 rfl gy_X0_spansWith ⟨⟨by decide, by decide⟩, by decide, by decide⟩ ⟨rfl, rfl⟩ rfl rfl (Nat.le_of_ble_eq_true rfl) dX3_isTaken_22 ?_
      show G Γ _ _ _ 25 _ (.int _ :: _)
      refine g_iand (pc := 25) cx dX3_isTaken_25 ?_
      refine g_if_eq (pc := 26) (tgt := 31) cx (by decide) dX3_isTaken_26 (fun c_26 => ?_) (fun c_26 => ?_)
      · skip
        refine z_ii_4_3 (pc := 31) cx dX3_isTaken_31 ?_
        refine g_goto (pc := 34) (tgt := 2) cx (by decide) dX3_isTaken_34 ?_
        exact ih (z - 1) (by omega) (j + 1) (by omega) (fun h q => (Nat.lt_succ_iff_lt_or_eq.mp q).elim (hno h) (fun q => by rw [q]; exact decide_eq_false (fun q => q c_26)))
      · skip
        refine z_iconst (pc := 29) cx dX3_isTaken_29 ?_
        exact (z_retb (pc := 30) (b := itk C P m off) cx rx (by decide) (by decide) dX3_isTaken_30 (by rw [itk, anyN_iff.mpr ⟨j, by omega, decide_eq_true c_26⟩]; rfl) ⟨rfl, rfl⟩)
  exact J2 (P 8 0).toNat 0 (by omega) (fun k q => absurd q (Nat.not_lt_zero _))
