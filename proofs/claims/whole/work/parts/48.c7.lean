/-! contracts (walks laid by program) -/
set_option maxRecDepth 100000 in
set_option maxHeartbeats 4000000 in
theorem c_X6_pathOf {lc : Launch} {dA : Nat → ClassId} {σ0 : hS} {a b c : Int} (hb : -1 ≤ b ∧ b < 6) (hcc : -1 ≤ c ∧ c < 6) : gM lc dA yX6_pathOf (.code yX6_pathOf cX6_pathOf 5 (some (.array .int))) { frames := 0, cells := 1, slots := 3, locals := 0 } σ0 [.int (iI a), .int (iI b), .int (iI c)] (fun v σ9 => ∃ (q : Nat) (f : Nat → Int32), v = some (.ref q) ∧ σ0 q = none ∧ σ9 = hup σ0 q (.inl (dA 0, (ptL b c).toNat, .inl f)) ∧ ∀ j : Nat, (j : Int) < ptL b c → f j = iI (ptP a b c (j : Int))) nX := by
  refine gM_body (by decide +kernel) (by simp [Value.category]) (Nat.le_of_ble_eq_true rfl) (fun Γ hdA cx rx nx => ?_)
  subst hdA
  have cx : CX lc Γ cX6_pathOf RX6 5 { frames := 0, cells := 1, slots := 3, locals := 0 } := cx
  show G Γ σ0 0 0 0 [some (.int (iI a)), some (.int (iI b)), some (.int (iI c)), none, none] []
  have hL := ptL_r b c
  have J19 : ∀ L : Int, L = ptL b c → G Γ σ0 0 0 19 [some (.int (iI (a))), some (.int (iI (b))), some (.int (iI (c))), none, none] [.int (iI L)] := by
    intro L hLe
    rw [← hLe] at hL
    refine z_is_5_3 (pc := 19) cx dX6_pathOf_19 ?_
    refine z_il_5_3 (pc := 20) cx dX6_pathOf_20 ?_
    refine g_newa (pc := 21) (atype := .int) (ty := .int) (t := 0) (N := L.toNat) (a0 := (L.toNat, .inl (fun _ => iI 0))) cx rfl (TB_at 46 (by decide +kernel) (by decide +kernel)) rfl (nw_int _) (fun q => (iI_in (a := L) (N := 4) (by omega) (by omega)) (Or.inl q)) (by rw [iI_cl (by omega)]) (by show L.toNat * 4 ≤ 536870912; omega) (by decide) (by show 0 + L.toNat ≤ 3; omega) dX6_pathOf_21 (fun q hq => ?_)
    refine g_widen (k := 1) (n := 3) (by decide) (by omega) ?_
    refine z_as_5_4 (pc := 23) cx dX6_pathOf_23 ?_
    refine z_al_5_4 (pc := 25) cx dX6_pathOf_25 ?_
    refine z_iconst (pc := 27) cx dX6_pathOf_27 ?_
    refine z_il_5_0 (pc := 28) cx dX6_pathOf_28 ?_
    refine g_iast (pc := 29) cx (hup_s _ _ _) (iI_in (by omega) (by omega)) dX6_pathOf_29 ?_
    rw [hup_hup]
    refine z_il_5_3 (pc := 30) cx dX6_pathOf_30 ?_
    refine z_iconst (pc := 31) cx dX6_pathOf_31 ?_
    refine z_icmp_le (pc := 32) (tgt := 40) cx (by omega) (by decide) dX6_pathOf_32 (fun c_32 => ?_) (fun c_32 => ?_)
    · skip
      refine z_il_5_3 (pc := 40) cx dX6_pathOf_40 ?_
      refine z_iconst (pc := 41) cx dX6_pathOf_41 ?_
      refine z_icmp_le (pc := 42) (tgt := 50) cx (by omega) (by decide) dX6_pathOf_42 (fun c_42 => ?_) (fun c_42 => ?_)
      · skip
        refine z_al_5_4 (pc := 50) cx dX6_pathOf_50 ?_
        exact g_areturn (pc := 52) cx rx (by decide) (by decide) (Or.inr ⟨_, rfl⟩) dX6_pathOf_52 ⟨q, _, rfl, hq, by rw [← hLe], fun j hj => by
          rw [← hLe] at hj
          rcases (show j = 0 ∨ j = 1 ∨ j = 2 by omega) with rfl | rfl | rfl <;> first | rfl | (exfalso; omega)⟩
      · skip
        refine z_al_5_4 (pc := 45) cx dX6_pathOf_45 ?_
        refine z_iconst (pc := 47) cx dX6_pathOf_47 ?_
        refine z_il_5_2 (pc := 48) cx dX6_pathOf_48 ?_
        refine g_iast (pc := 49) cx (hup_s _ _ _) (iI_in (by omega) (by omega)) dX6_pathOf_49 ?_
        rw [hup_hup]
        refine z_al_5_4 (pc := 50) cx dX6_pathOf_50 ?_
        exact g_areturn (pc := 52) cx rx (by decide) (by decide) (Or.inr ⟨_, rfl⟩) dX6_pathOf_52 ⟨q, _, rfl, hq, by rw [← hLe], fun j hj => by
          rw [← hLe] at hj
          rcases (show j = 0 ∨ j = 1 ∨ j = 2 by omega) with rfl | rfl | rfl <;> first | rfl | (exfalso; omega)⟩
    · skip
      refine z_al_5_4 (pc := 35) cx dX6_pathOf_35 ?_
      refine z_iconst (pc := 37) cx dX6_pathOf_37 ?_
      refine z_il_5_1 (pc := 38) cx dX6_pathOf_38 ?_
      refine g_iast (pc := 39) cx (hup_s _ _ _) (iI_in (by omega) (by omega)) dX6_pathOf_39 ?_
      rw [hup_hup]
      refine z_il_5_3 (pc := 40) cx dX6_pathOf_40 ?_
      refine z_iconst (pc := 41) cx dX6_pathOf_41 ?_
      refine z_icmp_le (pc := 42) (tgt := 50) cx (by omega) (by decide) dX6_pathOf_42 (fun c_42 => ?_) (fun c_42 => ?_)
      · skip
        refine z_al_5_4 (pc := 50) cx dX6_pathOf_50 ?_
        exact g_areturn (pc := 52) cx rx (by decide) (by decide) (Or.inr ⟨_, rfl⟩) dX6_pathOf_52 ⟨q, _, rfl, hq, by rw [← hLe], fun j hj => by
          rw [← hLe] at hj
          rcases (show j = 0 ∨ j = 1 ∨ j = 2 by omega) with rfl | rfl | rfl <;> first | rfl | (exfalso; omega)⟩
      · skip
        refine z_al_5_4 (pc := 45) cx dX6_pathOf_45 ?_
        refine z_iconst (pc := 47) cx dX6_pathOf_47 ?_
        refine z_il_5_2 (pc := 48) cx dX6_pathOf_48 ?_
        refine g_iast (pc := 49) cx (hup_s _ _ _) (iI_in (by omega) (by omega)) dX6_pathOf_49 ?_
        rw [hup_hup]
        refine z_al_5_4 (pc := 50) cx dX6_pathOf_50 ?_
        exact g_areturn (pc := 52) cx rx (by decide) (by decide) (Or.inr ⟨_, rfl⟩) dX6_pathOf_52 ⟨q, _, rfl, hq, by rw [← hLe], fun j hj => by
          rw [← hLe] at hj
          rcases (show j = 0 ∨ j = 1 ∨ j = 2 by omega) with rfl | rfl | rfl <;> first | rfl | (exfalso; omega)⟩
  refine z_il_5_1 (pc := 0) cx dX6_pathOf_0 ?_
  refine z_iconst (pc := 1) cx dX6_pathOf_1 ?_
  refine z_icmp_ne (pc := 2) (tgt := 9) cx (by omega) (by decide) dX6_pathOf_2 (fun c_2 => ?_) (fun c_2 => ?_)
  · skip
    refine z_il_5_2 (pc := 9) cx dX6_pathOf_9 ?_
    refine z_iconst (pc := 10) cx dX6_pathOf_10 ?_
    refine z_icmp_ne (pc := 11) (tgt := 18) cx (by omega) (by decide) dX6_pathOf_11 (fun c_11 => ?_) (fun c_11 => ?_)
    · skip
      refine z_iconst (pc := 18) cx dX6_pathOf_18 ?_
      exact J19 _ (by unfold ptL; (repeat' split) <;> omega)
    · skip
      refine z_iconst (pc := 14) cx dX6_pathOf_14 ?_
      refine g_goto (pc := 15) (tgt := 19) cx (by decide) dX6_pathOf_15 ?_
      exact J19 _ (by unfold ptL; (repeat' split) <;> omega)
  · skip
    refine z_iconst (pc := 5) cx dX6_pathOf_5 ?_
    refine g_goto (pc := 6) (tgt := 19) cx (by decide) dX6_pathOf_6 ?_
    exact J19 _ (by unfold ptL; (repeat' split) <;> omega)

set_option maxRecDepth 100000 in
set_option maxHeartbeats 4000000 in
theorem c_X6_stream {lc : Launch} {dA : Nat → ClassId} {cd : Nat → Nat} {σ0 : hS} {C : mS} {R : cR} (hst : lc.stackTraces = false) (hc : cat dA cd σ0 C R) (hn : 0 ≤ C 0 2 ∧ C 0 2 ≤ 5) {p s d a b c : Int} (hr : ((-2147483648 ≤ p ∧ p ≤ 2147483647) ∧ (-2147483648 ≤ s ∧ s ≤ 2147483647) ∧ (-2147483648 ≤ d ∧ d ≤ 2147483647) ∧ (-2147483648 ≤ a ∧ a ≤ 2147483647) ∧ (-2147483648 ≤ b ∧ b ≤ 2147483647) ∧ (-2147483648 ≤ c ∧ c ≤ 2147483647))) : gM lc dA yX6_stream (.code yX6_stream cX6_stream 7 (some .int)) { frames := 8, cells := 6, slots := 30, locals := 136 } σ0 [.ref (cd 0), .int (iI p), .int (iI s), .int (iI d), .int (iI a), .int (iI b), .int (iI c)] (fun v σ9 => thSmn (C 0 2) p s d a b c = 0 ∧ v = some (.int (iI (C 0 2))) ∧ ∃ (sr : Nat) (P : Int → Int), cat dA cd σ9 (mw C 0 2 (C 0 2 + 1)) (rwr R 2 (C 0 2) (some sr)) ∧ cFr cd σ0 σ9 ∧ isST dA cd σ9 sr p s d (ptL b c) P ∧ ∀ j : Nat, (j : Int) < ptL b c → P (j : Int) = ptP a b c (j : Int)) (cX3 σ0 (thSmn (C 0 2) p s d a b c) E_112 E_44 E_70) := by
  refine gM_body (by decide +kernel) (by simp [Value.category]) (Nat.le_of_ble_eq_true rfl) (fun Γ hdA cx rx nx => ?_)
  subst hdA
  have cx : CX lc Γ cX6_stream RX6 7 { frames := 8, cells := 6, slots := 30, locals := 136 } := cx
  show G Γ σ0 0 0 0 [some (.ref (cd 0)), some (.int (iI p)), some (.int (iI s)), some (.int (iI d)), some (.int (iI a)), some (.int (iI b)), some (.int (iI c))] []
  have hF : cFr cd σ0 σ0 := cFr.rf
  refine z_il_7_4 (pc := 0) cx dX6_stream_0 ?_
  refine g_callS (pc := 2) cx lk_X6_40 (c_X6_requireLink hst (by omega)) gy_X6_requireLink ⟨⟨by decide, by decide⟩, by decide, by decide⟩ rfl (Nat.le_of_ble_eq_true rfl) rfl dX6_stream_2 (fun E σ9 hX => ?_) (fun v9 σ9 hX => ?_)
  · obtain ⟨rfl, hbad, rfl⟩ := hX
    exact gx_out cx rx nx (by decide) (by decide) (⟨Or.inl ⟨rfl, (by
  unfold thSmn
  (repeat' split) <;> omega)⟩, rfl⟩)
  obtain ⟨rfl, hgood2, rfl⟩ := hX
  show G Γ _ _ _ 5 _ _
  refine z_il_7_5 (pc := 5) cx dX6_stream_5 ?_
  refine g_callS (pc := 7) cx lk_X6_51 (c_X6_requireLinkOrNone hst (by omega)) gy_X6_requireLinkOrNone ⟨⟨by decide, by decide⟩, by decide, by decide⟩ rfl (Nat.le_of_ble_eq_true rfl) rfl dX6_stream_7 (fun E σ9 hX => ?_) (fun v9 σ9 hX => ?_)
  · obtain ⟨rfl, hbad, rfl⟩ := hX
    exact gx_out cx rx nx (by decide) (by decide) (⟨Or.inl ⟨rfl, (by
  unfold thSmn
  (repeat' split) <;> omega)⟩, rfl⟩)
  obtain ⟨rfl, hgood7, rfl⟩ := hX
  show G Γ _ _ _ 10 _ _
  refine z_il_7_6 (pc := 10) cx dX6_stream_10 ?_
  refine g_callS (pc := 12) cx lk_X6_51 (c_X6_requireLinkOrNone hst (by omega)) gy_X6_requireLinkOrNone ⟨⟨by decide, by decide⟩, by decide, by decide⟩ rfl (Nat.le_of_ble_eq_true rfl) rfl dX6_stream_12 (fun E σ9 hX => ?_) (fun v9 σ9 hX => ?_)
  · obtain ⟨rfl, hbad, rfl⟩ := hX
    exact gx_out cx rx nx (by decide) (by decide) (⟨Or.inl ⟨rfl, (by
  unfold thSmn
  (repeat' split) <;> omega)⟩, rfl⟩)
  obtain ⟨rfl, hgood12, rfl⟩ := hX
  show G Γ _ _ _ 15 _ _
  refine z_il_7_4 (pc := 15) cx dX6_stream_15 ?_
  refine z_il_7_5 (pc := 17) cx dX6_stream_17 ?_
  refine z_il_7_6 (pc := 19) cx dX6_stream_19 ?_
  refine m_callS (pc := 21) cx lk_X6_54 (c_X6_isPath (by omega)) gy_X6_isPath ⟨⟨by decide, by decide⟩, by decide, by decide⟩ ⟨rfl, rfl⟩ rfl rfl (Nat.le_of_ble_eq_true rfl) dX6_stream_21 ?_
  show G Γ _ _ _ 24 _ (.int _ :: _)
  have hpi := ptB_iff (a := a) (b := b) (c := c) (by omega)
  refine z_if_ne (pc := 24) (tgt := 37) cx (by have := bz_r (ptB a b c); omega) (by decide) dX6_stream_24 (fun c_24 => ?_) (fun c_24 => ?_)
  · skip
    have hpp := hpi.mp (bz_n0.mp c_24)
    refine z_il_7_1 (pc := 37) cx dX6_stream_37 ?_
    refine m_callS (pc := 38) cx lk_X6_60 (c_X6_isPeriod (by omega)) gy_X6_isPeriod ⟨⟨by decide, by decide⟩, by decide, by decide⟩ ⟨rfl, rfl⟩ rfl rfl (Nat.le_of_ble_eq_true rfl) dX6_stream_38 ?_
    show G Γ _ _ _ 41 _ (.int _ :: _)
    refine z_if_eq (pc := 41) (tgt := 65) cx (by have := bz_r (decide (p = 8 ∨ p = 16 ∨ p = 32)); omega) (by decide) dX6_stream_41 (fun c_41 => ?_) (fun c_41 => ?_)
    · rw [bzd_0] at c_41
      exact g_throwS (pc := 65) cx hst rx nx rfl (cls := E_44) (text := T_64) (by simp [gExc]) (by decide +kernel) thr_44 dX6_stream_65 dX6_stream_68 dX6_stream_69 dX6_stream_71 dX6_stream_74 ⟨by decide, Nat.le_of_ble_eq_true rfl, by decide, by decide⟩ ⟨by decide, by decide⟩ (⟨Or.inr (Or.inl ⟨rfl, (by
  unfold thSmn
  (repeat' split) <;> omega)⟩), rfl⟩)
    · skip
      rw [bzd_n0] at c_41
      refine z_il_7_2 (pc := 44) cx dX6_stream_44 ?_
      refine z_iconst (pc := 45) cx dX6_stream_45 ?_
      refine z_icmp_lt (pc := 46) (tgt := 65) cx (by omega) (by decide) dX6_stream_46 (fun c_46 => ?_) (fun c_46 => ?_)
      · skip
        exact g_throwS (pc := 65) cx hst rx nx rfl (cls := E_44) (text := T_64) (by simp [gExc]) (by decide +kernel) thr_44 dX6_stream_65 dX6_stream_68 dX6_stream_69 dX6_stream_71 dX6_stream_74 ⟨by decide, Nat.le_of_ble_eq_true rfl, by decide, by decide⟩ ⟨by decide, by decide⟩ (⟨Or.inr (Or.inl ⟨rfl, (by
  unfold thSmn
  (repeat' split) <;> omega)⟩), rfl⟩)
      · skip
        refine z_il_7_2 (pc := 49) cx dX6_stream_49 ?_
        refine z_iconst (pc := 50) cx dX6_stream_50 ?_
        refine z_icmp_gt (pc := 51) (tgt := 65) cx (by omega) (by decide) dX6_stream_51 (fun c_51 => ?_) (fun c_51 => ?_)
        · skip
          exact g_throwS (pc := 65) cx hst rx nx rfl (cls := E_44) (text := T_64) (by simp [gExc]) (by decide +kernel) thr_44 dX6_stream_65 dX6_stream_68 dX6_stream_69 dX6_stream_71 dX6_stream_74 ⟨by decide, Nat.le_of_ble_eq_true rfl, by decide, by decide⟩ ⟨by decide, by decide⟩ (⟨Or.inr (Or.inl ⟨rfl, (by
  unfold thSmn
  (repeat' split) <;> omega)⟩), rfl⟩)
        · skip
          refine z_il_7_3 (pc := 54) cx dX6_stream_54 ?_
          refine z_iconst (pc := 55) cx dX6_stream_55 ?_
          refine z_icmp_lt (pc := 56) (tgt := 65) cx (by omega) (by decide) dX6_stream_56 (fun c_56 => ?_) (fun c_56 => ?_)
          · skip
            exact g_throwS (pc := 65) cx hst rx nx rfl (cls := E_44) (text := T_64) (by simp [gExc]) (by decide +kernel) thr_44 dX6_stream_65 dX6_stream_68 dX6_stream_69 dX6_stream_71 dX6_stream_74 ⟨by decide, Nat.le_of_ble_eq_true rfl, by decide, by decide⟩ ⟨by decide, by decide⟩ (⟨Or.inr (Or.inl ⟨rfl, (by
  unfold thSmn
  (repeat' split) <;> omega)⟩), rfl⟩)
          · skip
            refine z_il_7_3 (pc := 59) cx dX6_stream_59 ?_
            refine z_bipush (pc := 60) cx rfl dX6_stream_60 ?_
            refine z_icmp_le (pc := 62) (tgt := 75) cx (by omega) (by decide) dX6_stream_62 (fun c_62 => ?_) (fun c_62 => ?_)
            · skip
              refine z_al_7_0 (pc := 75) cx dX6_stream_75 ?_
              refine g_getf (pc := 76) cx fl_X6_66 hc.x rfl dX6_stream_76 ?_
              refine z_iconst (pc := 79) cx dX6_stream_79 ?_
              refine z_icmp_lt (pc := 80) (tgt := 93) cx (by omega) (by decide) dX6_stream_80 (fun c_80 => ?_) (fun c_80 => ?_)
              · skip
                refine z_al_7_0 (pc := 93) cx dX6_stream_93 ?_
                obtain ⟨cn, hcn⟩ : ∃ cn : Nat, C 0 2 = (cn : Int) := ⟨(C 0 2).toNat, by omega⟩
                have hth : thSmn (C 0 2) p s d a b c = 0 := (by
                  unfold thSmn
                  (repeat' split) <;> omega)
                refine g_getf (pc := 94) cx fl_X6_15 hc.x rfl dX6_stream_94 ?_
                refine z_al_7_0 (pc := 97) cx dX6_stream_97 ?_
                refine g_getf (pc := 98) cx fl_X6_66 hc.x rfl dX6_stream_98 ?_
                rw [hcn]
                refine c_new (pc := 101) (ci := 4) (fs := [.int (iI 0), .int (iI 0), .int (iI 0), .null]) cx hc hF rfl (TB_at 25 (by decide +kernel) (by decide +kernel)) (TB_at 296 (by decide +kernel) (by decide +kernel)) (TB_at 12 (by decide +kernel) (by decide +kernel)) dfX4 (by decide) (by decide) dX6_stream_101 (fun q4 σ hq4 hz4 hs4 hc hF h4 => ?_)
                refine g_dup (pc := 104) cx rfl dX6_stream_104 ?_
                refine z_il_7_1 (pc := 105) cx dX6_stream_105 ?_
                refine z_il_7_2 (pc := 106) cx dX6_stream_106 ?_
                refine z_il_7_3 (pc := 107) cx dX6_stream_107 ?_
                refine z_il_7_4 (pc := 108) cx dX6_stream_108 ?_
                refine z_il_7_5 (pc := 110) cx dX6_stream_110 ?_
                refine z_il_7_6 (pc := 112) cx dX6_stream_112 ?_
                refine g_callS (pc := 114) cx lk_X6_75 (c_X6_pathOf (by omega) (by omega)) gy_X6_pathOf ⟨⟨by decide, by decide⟩, by decide, by decide⟩ rfl (Nat.le_of_ble_eq_true rfl) rfl dX6_stream_114 (fun E σ9 hX => ?_) (fun v9 σ9 hX => ?_)
                · exact hX.elim
                obtain ⟨pq, pf, rfl, hpq, rfl, hpf⟩ := hX
                have hne : q4 ≠ pq := fun z => by
                  rw [hs4, ← z, hup_s] at hpq
                  cases hpq
                have hzp := cFr.no hc hF hpq
                have hnp := hc.no hpq
                show G Γ _ _ _ 117 _ (.ref _ :: _)
                refine g_callI (pc := 117) (As := [.int (iI p), .int (iI s), .int (iI d), .ref pq]) cx lk_X6_79 (c_X4_init (by rw [hup_n hne]; exact h4.1)) rfl gy_X4_init ⟨⟨by decide, by decide⟩, by decide, by decide⟩ rfl (Nat.le_of_ble_eq_true rfl) rfl dX6_stream_117 (fun E σ9 hX => hX.elim) (fun v9 σ9 hX => ?_)
                obtain ⟨rfl, h9⟩ := hX
                obtain ⟨h91, h92⟩ := hld1 h9
                have hp9 : σ9 pq = some (.inl (gdA Γ 0, (ptL b c).toNat, .inl pf)) := by rw [h92 pq (Ne.symm hne), hup_s]
                have hc : cat (gdA Γ) cd σ9 C R := hc.ne (fun k hk => by rw [h92 _ (fun z => h4.2 k hk z.symm), hup_n (fun z => hc.no hpq k hk z.symm)])
                have hF := hF.mk2 hz4 hzp h92
                have hF9 := hF
                show G Γ _ _ _ 120 _ [.ref q4, .int (iI (cn : Int)), .ref (cd 2)]
                refine c_addS (pc := 120) (i := cn) cx hc hF h91 (by omega) dX6_stream_120 ?_
                intro σ hc hF3 h93
                have hF : cFr cd σ9 σ := fun q _ h => h93 q h
                refine z_al_7_0 (pc := 121) cx dX6_stream_121 ?_
                refine g_dup (pc := 122) cx rfl dX6_stream_122 ?_
                refine g_getf (pc := 123) cx fl_X6_66 hc.x rfl dX6_stream_123 ?_
                refine z_iconst (pc := 126) cx dX6_stream_126 ?_
                refine z_iadd (pc := 127) cx dX6_stream_127 ?_
                refine c_put (pc := 128) cx hc hF (by omega) fl_X6_66 rfl rfl (show (2 : Nat) < 10 by decide) (⟨rfl, rfl⟩) (xS2) mw_ne dX6_stream_128 ?_
                intro σ hc hF
                refine z_al_7_0 (pc := 131) cx dX6_stream_131 ?_
                refine g_getf (pc := 132) cx fl_X6_66 hc.x rfl dX6_stream_132 ?_
                refine z_iconst (pc := 135) cx dX6_stream_135 ?_
                refine z_isub (pc := 136) cx dX6_stream_136 ?_
                exact z_ret (pc := 137) cx rx (by decide) (by decide) dX6_stream_137 ⟨hth, (by rw [mw_s]; show some (Value.int (iI (C 0 2 + 1 - 1))) = _; rw [show C 0 2 + 1 - 1 = C 0 2 by omega]), q4, fI pf, by rw [← hcn] at hc; exact hc, hF9.tr hF, ⟨pq, (show pl cd σ9 q4 _ from ⟨h91, h4.2⟩).fr hF, by rw [fI_ok]; exact (show pl cd σ9 pq _ from ⟨hp9, hnp⟩).fr hF⟩, fun j hj => by
                  unfold fI
                  rw [Int.toNat_natCast, hpf j hj]
                  exact iI_toInt (by unfold ptP; split <;> (try split) <;> omega)⟩
              · skip
                exact g_throwS (pc := 83) cx hst rx nx rfl (cls := E_70) (text := T_72) (by simp [gExc]) (by decide +kernel) thr_70 dX6_stream_83 dX6_stream_86 dX6_stream_87 dX6_stream_89 dX6_stream_92 ⟨by decide, Nat.le_of_ble_eq_true rfl, by decide, by decide⟩ ⟨by decide, by decide⟩ (⟨Or.inr (Or.inr ⟨rfl, (by
  unfold thSmn
  (repeat' split) <;> omega)⟩), rfl⟩)
            · skip
              exact g_throwS (pc := 65) cx hst rx nx rfl (cls := E_44) (text := T_64) (by simp [gExc]) (by decide +kernel) thr_44 dX6_stream_65 dX6_stream_68 dX6_stream_69 dX6_stream_71 dX6_stream_74 ⟨by decide, Nat.le_of_ble_eq_true rfl, by decide, by decide⟩ ⟨by decide, by decide⟩ (⟨Or.inr (Or.inl ⟨rfl, (by
  unfold thSmn
  (repeat' split) <;> omega)⟩), rfl⟩)
  · skip
    have hpp : ¬ _ := fun q => absurd (hpi.mpr q) (by rw [bz_0.mp c_24]; decide)
    exact g_throwS (pc := 27) cx hst rx nx rfl (cls := E_44) (text := T_58) (by simp [gExc]) (by decide +kernel) thr_44 dX6_stream_27 dX6_stream_30 dX6_stream_31 dX6_stream_33 dX6_stream_36 ⟨by decide, Nat.le_of_ble_eq_true rfl, by decide, by decide⟩ ⟨by decide, by decide⟩ (⟨Or.inr (Or.inl ⟨rfl, (by
  unfold thSmn
  (repeat' split) <;> omega)⟩), rfl⟩)
