/-! contracts (walks laid by program) -/
set_option maxRecDepth 100000 in
set_option maxHeartbeats 4000000 in
theorem c_X7_talkAll {lc : Launch} {dA : Nat → ClassId} {ad : Nat → Nat} {σ0 : hS} {h : Nat} {S : mS} (hm : mat dA ad σ0 h S) (hs : mSch S 2) (ht : mTm S) (hl : ∀ i, 0 ≤ i → i < 5 → (0 ≤ S 17 i ∧ S 17 i ≤ 7) ∧ (S 16 i = 0 ∨ S 16 i = 1) ∧ (S 18 i = 0 ∨ S 18 i = 1)) (hn : 0 ≤ S 23 0 ∧ S 23 0 ≤ 58) : gM lc dA yX7_talkAll (.code yX7_talkAll cX7_talkAll 3 none) { frames := 0, cells := 0, slots := 0, locals := 0 } σ0 [.ref h] (mP dA ad h σ0 none (tkF S)) nX := by
  refine gM_body (by decide +kernel) (by simp [Value.category]) (Nat.le_of_ble_eq_true rfl) (fun Γ hdA cx rx nx => ?_)
  subst hdA
  have cx : CX lc Γ cX7_talkAll RX7 3 { frames := 0, cells := 0, slots := 0, locals := 0 } := cx
  show G Γ σ0 0 0 0 [some (.ref h), none, none] []
  have hF : mFr ad h σ0 σ0 := mFr.rf
  unfold mTm at ht
  have hs1 := hs.1
  refine z_iconst (pc := 0) cx dX7_talkAll_0 ?_
  refine z_is_3_1 (pc := 1) cx dX7_talkAll_1 ?_
  have J2 : ∀ (n i : Nat) (x2 : Option Value) (T : mS) (σ : hS), i + n = (S 7 2).toNat → T = itN i tk1 S → tkI S i T → mat (gdA Γ) ad σ h T → mFr ad h σ0 σ → G Γ σ 0 0 2 [some (.ref h), some (.int (iI ((i : Int)))), x2] [] := by
    intro n
    induction n using Nat.strongRecOn with
    | _ n ih =>
    intro i x2 T σ hin hT hI hm hF
    obtain ⟨tA, tB, tC⟩ := id hI
    have e7 := congrFun (tA 7 (by decide) (by decide) (by decide) (by decide) (by decide)) 2
    refine z_il_3_1 (pc := 2) cx dX7_talkAll_2 ?_
    refine z_al_3_0 (pc := 3) cx dX7_talkAll_3 ?_
    refine m_get (pc := 4) cx hm fl_X7_25 rfl dX7_talkAll_4 ?_
    refine z_iconst (pc := 7) cx dX7_talkAll_7 ?_
    refine m_iald (pc := 8) (k := 7) (L := 3) cx hm ⟨rfl, rfl, by decide, by decide⟩ dX7_talkAll_8 (by omega) ?_
    refine z_icmp_ge (pc := 9) (tgt := 137) cx (by omega) (by decide) dX7_talkAll_9 (fun c_9 => ?_) (fun c_9 => ?_)
    · obtain rfl : i = (S 7 2).toNat := by omega
      exact g_return (pc := 137) cx rx (by decide) (by decide) dX7_talkAll_137 ⟨rfl, by unfold tkF; rw [← hT]; exact hm, hF⟩
    · skip
      have J131 : ∀ (U : mS) (x2 : Option Value) (σ : hS), U = tk1 T i → mat (gdA Γ) ad σ h U → mFr ad h σ0 σ → G Γ σ 0 0 131 [some (.ref h), some (.int (iI ((i : Int)))), x2] [] := by
        intro U x2 σ hU hm hF
        refine z_ii_3_1 (pc := 131) cx dX7_talkAll_131 ?_
        refine g_goto (pc := 134) (tgt := 2) cx (by decide) dX7_talkAll_134 ?_
        exact ih (n - 1) (by omega) (i + 1) _ U σ (by omega) (by rw [hU, hT]; rfl) (by rw [hU]; exact tkI_1 hI) hm hF
      have g := mSch2 hs (i := (i : Int)) (by omega) (by omega)
      obtain ⟨g8, g9, g10, -⟩ := id g
      have e8 := congrFun (tA 8 (by decide) (by decide) (by decide) (by decide) (by decide)) (10 + (i : Int))
      have e10 := congrFun (tA 10 (by decide) (by decide) (by decide) (by decide) (by decide)) (10 + (i : Int))
      have e15 := congrFun (tA 15 (by decide) (by decide) (by decide) (by decide) (by decide)) 0
      have e17 := congrFun (tA 17 (by decide) (by decide) (by decide) (by decide) (by decide)) (i : Int)
      have e16 := congrFun (tA 16 (by decide) (by decide) (by decide) (by decide) (by decide)) (i : Int)
      have l1 := hl (i : Int) (by omega) (by omega)
      have l2 := tB (i : Int) (by omega) (by omega)
      have hr := tmod_r (T 15 0 - T 17 (i : Int)) (T 8 (10 + (i : Int))) (by omega)
      refine z_al_3_0 (pc := 12) cx dX7_talkAll_12 ?_
      refine m_get (pc := 13) cx hm fl_X7_141 rfl dX7_talkAll_13 ?_
      refine z_al_3_0 (pc := 16) cx dX7_talkAll_16 ?_
      refine m_get (pc := 17) cx hm fl_X7_50 rfl dX7_talkAll_17 ?_
      refine z_il_3_1 (pc := 20) cx dX7_talkAll_20 ?_
      refine m_iald (pc := 21) (k := 17) (L := 5) cx hm ⟨rfl, rfl, by decide, by decide⟩ dX7_talkAll_21 (by omega) ?_
      refine z_isub (pc := 22) cx dX7_talkAll_22 ?_
      refine z_is_3_2 (pc := 23) cx dX7_talkAll_23 ?_
      refine z_al_3_0 (pc := 24) cx dX7_talkAll_24 ?_
      refine m_get (pc := 25) cx hm fl_X7_46 rfl dX7_talkAll_25 ?_
      refine z_il_3_1 (pc := 28) cx dX7_talkAll_28 ?_
      refine m_zald (pc := 29) (k := 16) (L := 5) cx hm ⟨rfl, rfl, by decide, by decide⟩ dX7_talkAll_29 (by omega) ?_
      refine z_if_ne (pc := 30) (tgt := 131) cx (by omega) (by decide) dX7_talkAll_30 (fun c_30 => ?_) (fun c_30 => ?_)
      · skip
        exact J131 _ _ _ (by rw [tk1, tkB, decide_eq_false c_30]; rfl) hm hF
      · skip
        refine z_il_3_2 (pc := 33) cx dX7_talkAll_33 ?_
        refine z_if_lt (pc := 34) (tgt := 131) cx (by omega) (by decide) dX7_talkAll_34 (fun c_34 => ?_) (fun c_34 => ?_)
        · skip
          exact J131 _ _ _ (by rw [tk1, tkB, decide_eq_true c_30, decide_eq_false (show ¬ 0 ≤ T 15 0 - T 17 (i : Int) by omega)]; rfl) hm hF
        · skip
          refine z_il_3_2 (pc := 37) cx dX7_talkAll_37 ?_
          refine z_al_3_0 (pc := 38) cx dX7_talkAll_38 ?_
          refine m_get (pc := 39) cx hm fl_X7_28 rfl dX7_talkAll_39 ?_
          refine z_bipush (pc := 42) cx rfl dX7_talkAll_42 ?_
          refine z_il_3_1 (pc := 44) cx dX7_talkAll_44 ?_
          refine z_iadd (pc := 45) cx dX7_talkAll_45 ?_
          refine m_iald (pc := 46) (k := 8) (L := 15) cx hm ⟨rfl, rfl, by decide, by decide⟩ dX7_talkAll_46 (by omega) ?_
          refine z_irem (pc := 47) cx (by omega) dX7_talkAll_47 ?_
          refine z_al_3_0 (pc := 48) cx dX7_talkAll_48 ?_
          refine m_get (pc := 49) cx hm fl_X7_34 rfl dX7_talkAll_49 ?_
          refine z_bipush (pc := 52) cx rfl dX7_talkAll_52 ?_
          refine z_il_3_1 (pc := 54) cx dX7_talkAll_54 ?_
          refine z_iadd (pc := 55) cx dX7_talkAll_55 ?_
          refine m_iald (pc := 56) (k := 10) (L := 15) cx hm ⟨rfl, rfl, by decide, by decide⟩ dX7_talkAll_56 (by omega) ?_
          refine z_icmp_ne (pc := 57) (tgt := 131) cx (by omega) (by decide) dX7_talkAll_57 (fun c_57 => ?_) (fun c_57 => ?_)
          · skip
            exact J131 _ _ _ (by rw [tk1, tkB, decide_eq_true c_30, decide_eq_true c_34, decide_eq_false c_57]; rfl) hm hF
          · skip
            refine z_al_3_0 (pc := 60) cx dX7_talkAll_60 ?_
            refine m_get (pc := 61) cx hm fl_X7_50 rfl dX7_talkAll_61 ?_
            refine z_il_3_1 (pc := 64) cx dX7_talkAll_64 ?_
            refine m_iald (pc := 65) (k := 17) (L := 5) cx hm ⟨rfl, rfl, by decide, by decide⟩ dX7_talkAll_65 (by omega) ?_
            refine z_if_gt (pc := 66) (tgt := 78) cx (by omega) (by decide) dX7_talkAll_66 (fun c_66 => ?_) (fun c_66 => ?_)
            · skip
              refine z_al_3_0 (pc := 78) cx dX7_talkAll_78 ?_
              refine m_get (pc := 79) cx hm fl_X7_62 rfl dX7_talkAll_79 ?_
              refine z_il_3_1 (pc := 82) cx dX7_talkAll_82 ?_
              refine g_dup2 (pc := 83) cx rfl rfl dX7_talkAll_83 ?_
              refine m_iald (pc := 84) (k := 21) (L := 5) cx hm ⟨rfl, rfl, by decide, by decide⟩ dX7_talkAll_84 (by omega) ?_
              refine z_iconst (pc := 85) cx dX7_talkAll_85 ?_
              refine z_iadd (pc := 86) cx dX7_talkAll_86 ?_
              refine m_iast (pc := 87) (k := 21) (L := 5) cx hm hF ⟨rfl, rfl, by decide, by decide⟩ dX7_talkAll_87 (by omega) ?_
              intro σ hm hF
              refine z_al_3_0 (pc := 88) cx dX7_talkAll_88 ?_
              refine m_get (pc := 89) cx hm fl_X7_53 rfl dX7_talkAll_89 ?_
              refine z_il_3_1 (pc := 92) cx dX7_talkAll_92 ?_
              refine z_iconst (pc := 93) cx dX7_talkAll_93 ?_
              refine m_zast (pc := 94) (k := 18) (L := 5) cx hm hF ⟨rfl, rfl, by decide, by decide⟩ dX7_talkAll_94 (by omega) (by omega) ?_
              intro σ hm hF
              refine g_goto (pc := 95) (tgt := 131) cx (by decide) dX7_talkAll_95 ?_
              exact J131 _ _ _ (by
                rw [tk1, tkB, decide_eq_true c_30, decide_eq_true c_34, decide_eq_true c_57, tkD]
                first
                | (rw [decide_eq_true c_66]; rfl)
                | (rw [decide_eq_true (p := T 18 (i : Int) ≠ 0) c_75, Bool.or_true]; rfl)) hm hF
            · skip
              refine z_al_3_0 (pc := 69) cx dX7_talkAll_69 ?_
              refine m_get (pc := 70) cx hm fl_X7_53 rfl dX7_talkAll_70 ?_
              refine z_il_3_1 (pc := 73) cx dX7_talkAll_73 ?_
              refine m_zald (pc := 74) (k := 18) (L := 5) cx hm ⟨rfl, rfl, by decide, by decide⟩ dX7_talkAll_74 (by omega) ?_
              refine z_if_eq (pc := 75) (tgt := 98) cx (by omega) (by decide) dX7_talkAll_75 (fun c_75 => ?_) (fun c_75 => ?_)
              · skip
                refine z_al_3_0 (pc := 98) cx dX7_talkAll_98 ?_
                refine m_get (pc := 99) cx hm fl_X7_68 rfl dX7_talkAll_99 ?_
                refine z_al_3_0 (pc := 102) cx dX7_talkAll_102 ?_
                refine m_get (pc := 103) cx hm fl_X7_138 rfl dX7_talkAll_103 ?_
                refine z_il_3_1 (pc := 106) cx dX7_talkAll_106 ?_
                refine m_iast (pc := 107) (k := 24) (L := 64) cx hm hF ⟨rfl, rfl, by decide, by decide⟩ dX7_talkAll_107 (by omega) ?_
                intro σ hm hF
                refine z_al_3_0 (pc := 108) cx dX7_talkAll_108 ?_
                refine m_get (pc := 109) cx hm fl_X7_71 rfl dX7_talkAll_109 ?_
                refine z_al_3_0 (pc := 112) cx dX7_talkAll_112 ?_
                refine m_get (pc := 113) cx hm fl_X7_138 rfl dX7_talkAll_113 ?_
                refine z_al_3_0 (pc := 116) cx dX7_talkAll_116 ?_
                refine m_get (pc := 117) cx hm fl_X7_141 rfl dX7_talkAll_117 ?_
                refine m_iast (pc := 120) (k := 25) (L := 64) cx hm hF ⟨rfl, rfl, by decide, by decide⟩ dX7_talkAll_120 (by rw [mw_k (by decide)]; omega) ?_
                intro σ hm hF
                refine z_al_3_0 (pc := 121) cx dX7_talkAll_121 ?_
                refine g_dup (pc := 122) cx rfl dX7_talkAll_122 ?_
                refine m_get (pc := 123) cx hm fl_X7_138 rfl dX7_talkAll_123 ?_
                refine z_iconst (pc := 126) cx dX7_talkAll_126 ?_
                refine z_iadd (pc := 127) cx dX7_talkAll_127 ?_
                refine m_put (pc := 128) cx hm hF fl_X7_138 ⟨rfl, rfl, by decide, rfl⟩ (mFs_23 _ _ _) dX7_talkAll_128 ?_
                intro σ hm hF
                exact J131 _ _ _ (by rw [tk1, tkB, decide_eq_true c_30, decide_eq_true c_34, decide_eq_true c_57, tkD, decide_eq_false (show ¬ 0 < T 17 (i : Int) by omega), decide_eq_false (p := T 18 (i : Int) ≠ 0) (fun q => q c_75)]; rfl) hm hF
              · skip
                refine z_al_3_0 (pc := 78) cx dX7_talkAll_78 ?_
                refine m_get (pc := 79) cx hm fl_X7_62 rfl dX7_talkAll_79 ?_
                refine z_il_3_1 (pc := 82) cx dX7_talkAll_82 ?_
                refine g_dup2 (pc := 83) cx rfl rfl dX7_talkAll_83 ?_
                refine m_iald (pc := 84) (k := 21) (L := 5) cx hm ⟨rfl, rfl, by decide, by decide⟩ dX7_talkAll_84 (by omega) ?_
                refine z_iconst (pc := 85) cx dX7_talkAll_85 ?_
                refine z_iadd (pc := 86) cx dX7_talkAll_86 ?_
                refine m_iast (pc := 87) (k := 21) (L := 5) cx hm hF ⟨rfl, rfl, by decide, by decide⟩ dX7_talkAll_87 (by omega) ?_
                intro σ hm hF
                refine z_al_3_0 (pc := 88) cx dX7_talkAll_88 ?_
                refine m_get (pc := 89) cx hm fl_X7_53 rfl dX7_talkAll_89 ?_
                refine z_il_3_1 (pc := 92) cx dX7_talkAll_92 ?_
                refine z_iconst (pc := 93) cx dX7_talkAll_93 ?_
                refine m_zast (pc := 94) (k := 18) (L := 5) cx hm hF ⟨rfl, rfl, by decide, by decide⟩ dX7_talkAll_94 (by omega) (by omega) ?_
                intro σ hm hF
                refine g_goto (pc := 95) (tgt := 131) cx (by decide) dX7_talkAll_95 ?_
                exact J131 _ _ _ (by
                  rw [tk1, tkB, decide_eq_true c_30, decide_eq_true c_34, decide_eq_true c_57, tkD]
                  first
                  | (rw [decide_eq_true c_66]; rfl)
                  | (rw [decide_eq_true (p := T 18 (i : Int) ≠ 0) c_75, Bool.or_true]; rfl)) hm hF
  exact J2 (S 7 2).toNat 0 _ S σ0 (by omega) rfl ⟨fun _ _ _ _ _ _ => rfl, fun j q1 q2 => (hl j q1 q2).2.2, by omega⟩ hm hF

set_option maxRecDepth 100000 in
set_option maxHeartbeats 4000000 in
theorem c_X7_flyAll {lc : Launch} {dA : Nat → ClassId} {ad : Nat → Nat} {σ0 : hS} {h : Nat} {S : mS} (hm : mat dA ad σ0 h S) (hw : FW S) : gM lc dA yX7_flyAll (.code yX7_flyAll cX7_flyAll 3 none) { frames := 3, cells := 0, slots := 0, locals := 70 } σ0 [.ref h] (mP dA ad h σ0 none (flyF S)) nX := by
  refine gM_body (by decide +kernel) (by simp [Value.category]) (Nat.le_of_ble_eq_true rfl) (fun Γ hdA cx rx nx => ?_)
  subst hdA
  have cx : CX lc Γ cX7_flyAll RX7 3 { frames := 3, cells := 0, slots := 0, locals := 70 } := cx
  show G Γ σ0 0 0 0 [some (.ref h), none, none] []
  have hF : mFr ad h σ0 σ0 := mFr.rf
  have hw1 := hw.1
  refine z_al_3_0 (pc := 0) cx dX7_flyAll_0 ?_
  refine m_get (pc := 1) cx hm fl_X7_138 rfl dX7_flyAll_1 ?_
  refine z_iconst (pc := 4) cx dX7_flyAll_4 ?_
  refine z_isub (pc := 5) cx dX7_flyAll_5 ?_
  refine z_is_3_1 (pc := 6) cx dX7_flyAll_6 ?_
  have J7 : ∀ (n : Nat) (m : Int) (x2 : Option Value) (T : mS) (σ : hS), m = (n : Int) - 1 → (n : Int) ≤ T 23 0 → FW T → fl1 n T = fl1 (S 23 0).toNat S → mat (gdA Γ) ad σ h T → mFr ad h σ0 σ → G Γ σ 0 0 7 [some (.ref h), some (.int (iI (m))), x2] [] := by
    intro n
    induction n using Nat.strongRecOn with
    | _ n ih =>
    intro m x2 T σ hmn hnT hwT hR hm hF
    have hw1 := hwT.1
    refine z_il_3_1 (pc := 7) cx dX7_flyAll_7 ?_
    refine z_if_lt (pc := 8) (tgt := 47) cx (by omega) (by decide) dX7_flyAll_8 (fun c_8 => ?_) (fun c_8 => ?_)
    · skip
      refine z_iconst (pc := 47) cx dX7_flyAll_47 ?_
      refine z_is_3_1 (pc := 48) cx dX7_flyAll_48 ?_
      have J49 : ∀ (n : Nat) (f : Int) (x2 : Option Value) (T : mS) (σ : hS), 0 ≤ f → f ≤ T 23 0 → n = (T 23 0 - f).toNat → FW T → fl2 n T f = flyF S → mat (gdA Γ) ad σ h T → mFr ad h σ0 σ → G Γ σ 0 0 49 [some (.ref h), some (.int (iI (f))), x2] [] := by
        clear ih
        intro n
        induction n using Nat.strongRecOn with
        | _ n ih =>
        intro f x2 T σ hf0 hfl hnf hwT hR hm hF
        have hw1 := hwT.1
        refine z_il_3_1 (pc := 49) cx dX7_flyAll_49 ?_
        refine z_al_3_0 (pc := 50) cx dX7_flyAll_50 ?_
        refine m_get (pc := 51) cx hm fl_X7_138 rfl dX7_flyAll_51 ?_
        refine z_icmp_ge (pc := 54) (tgt := 122) cx (by omega) (by decide) dX7_flyAll_54 (fun c_54 => ?_) (fun c_54 => ?_)
        · obtain rfl : n = 0 := by omega
          exact g_return (pc := 122) cx rx (by decide) (by decide) dX7_flyAll_122 ⟨rfl, by rw [← hR]; exact hm, hF⟩
        · skip
          obtain ⟨n1, rfl⟩ : ∃ n1, n = n1 + 1 := ⟨n - 1, by omega⟩
          rw [fl2, if_pos c_54] at hR
          have hf := hwT.2.1 f hf0 c_54
          obtain ⟨f1, f2, f3, f4⟩ := id hf
          have htr := thrO_r hf (j := laF T (30 + 3 * T 24 f)) (laF_le _ _)
          have htm : 0 ≤ T 15 0 ∧ T 15 0 ≤ 1000000 := hwT.2.2.1
          refine z_al_3_0 (pc := 57) cx dX7_flyAll_57 ?_
          refine m_get (pc := 58) cx hm fl_X7_68 rfl dX7_flyAll_58 ?_
          refine z_il_3_1 (pc := 61) cx dX7_flyAll_61 ?_
          refine m_iald (pc := 62) (k := 24) (L := 64) cx hm ⟨rfl, rfl, by decide, by decide⟩ dX7_flyAll_62 (by omega) ?_
          refine z_is_3_2 (pc := 63) cx dX7_flyAll_63 ?_
          refine z_al_3_0 (pc := 64) cx dX7_flyAll_64 ?_
          refine z_il_3_1 (pc := 65) cx dX7_flyAll_65 ?_
          refine z_al_3_0 (pc := 66) cx dX7_flyAll_66 ?_
          refine z_il_3_2 (pc := 67) cx dX7_flyAll_67 ?_
          refine m_callV (pc := 68) cx lk_X7_150 (c_X7_lastOf hm f2 f4) hm hF rfl gy_X7_lastOf ⟨⟨by decide, by decide⟩, by decide, by decide⟩ ⟨rfl, rfl⟩ rfl rfl (Nat.le_of_ble_eq_true rfl) dX7_flyAll_68 ?_
          intro σ hm hF
          show G Γ _ _ _ 71 _ (.int (iI _) :: _)
          refine m_callV (pc := 71) cx lk_X7_161 (c_X7_throughOf hm hf (j := laF T (30 + 3 * T 24 f)) (laF_le _ _)) hm hF rfl gy_X7_throughOf ⟨⟨by decide, by decide⟩, by decide, by decide⟩ ⟨rfl, rfl⟩ rfl rfl (Nat.le_of_ble_eq_true rfl) dX7_flyAll_71 ?_
          intro σ hm hF
          show G Γ _ _ _ 74 _ (.int (iI _) :: _)
          refine z_al_3_0 (pc := 74) cx dX7_flyAll_74 ?_
          refine m_get (pc := 75) cx hm fl_X7_141 rfl dX7_flyAll_75 ?_
          refine z_icmp_ne (pc := 78) (tgt := 116) cx (by omega) (by decide) dX7_flyAll_78 (fun c_78 => ?_) (fun c_78 => ?_)
          · skip
            refine z_ii_3_1 (pc := 116) cx dX7_flyAll_116 ?_
            refine g_goto (pc := 119) (tgt := 49) cx (by decide) dX7_flyAll_119 ?_
            first
            | exact ih n1 (by omega) f _ (got1 T f) σ hf0 (by rw [(FW_got hwT ⟨hf0, c_54⟩).2]; omega) (by rw [(FW_got hwT ⟨hf0, c_54⟩).2]; omega) (FW_got hwT ⟨hf0, c_54⟩).1 (by rw [if_pos c_78] at hR; exact hR) hm hF
            | exact ih n1 (by omega) (f + 1) _ T σ (by omega) (by omega) (by omega) hwT (by rw [if_neg c_78] at hR; exact hR) hm hF
          · skip
            refine z_al_3_0 (pc := 81) cx dX7_flyAll_81 ?_
            refine m_get (pc := 82) cx hm fl_X7_56 rfl dX7_flyAll_82 ?_
            refine z_il_3_2 (pc := 85) cx dX7_flyAll_85 ?_
            refine g_dup2 (pc := 86) cx rfl rfl dX7_flyAll_86 ?_
            refine m_iald (pc := 87) (k := 19) (L := 5) cx hm ⟨rfl, rfl, by decide, by decide⟩ dX7_flyAll_87 (by omega) ?_
            refine z_iconst (pc := 88) cx dX7_flyAll_88 ?_
            refine z_iadd (pc := 89) cx dX7_flyAll_89 ?_
            refine m_iast (pc := 90) (k := 19) (L := 5) cx hm hF ⟨rfl, rfl, by decide, by decide⟩ dX7_flyAll_90 (by omega) ?_
            intro σ hm hF
            refine z_al_3_0 (pc := 91) cx dX7_flyAll_91 ?_
            refine m_get (pc := 92) cx hm fl_X7_65 rfl dX7_flyAll_92 ?_
            refine z_il_3_2 (pc := 95) cx dX7_flyAll_95 ?_
            refine z_al_3_0 (pc := 96) cx dX7_flyAll_96 ?_
            refine m_get (pc := 97) cx hm fl_X7_141 rfl dX7_flyAll_97 ?_
            refine z_al_3_0 (pc := 100) cx dX7_flyAll_100 ?_
            refine m_get (pc := 101) cx hm fl_X7_71 rfl dX7_flyAll_101 ?_
            refine z_il_3_1 (pc := 104) cx dX7_flyAll_104 ?_
            refine m_iald (pc := 105) (k := 25) (L := 64) cx hm ⟨rfl, rfl, by decide, by decide⟩ dX7_flyAll_105 (by omega) ?_
            refine z_isub (pc := 106) cx dX7_flyAll_106 ?_
            refine m_iast (pc := 107) (k := 22) (L := 5) cx hm hF ⟨rfl, rfl, by decide, by decide⟩ dX7_flyAll_107 (by omega) ?_
            intro σ hm hF
            refine z_al_3_0 (pc := 108) cx dX7_flyAll_108 ?_
            refine z_il_3_1 (pc := 109) cx dX7_flyAll_109 ?_
            refine m_callV (pc := 110) cx lk_X7_157 (c_X7_remove hm (f := f) (by rw [mw_k (by decide), mw_k (by decide)]; omega) (by rw [mw_k (by decide), mw_k (by decide)]; omega)) hm hF rfl gy_X7_remove ⟨⟨by decide, by decide⟩, by decide, by decide⟩ ⟨rfl, rfl⟩ rfl rfl (Nat.le_of_ble_eq_true rfl) dX7_flyAll_110 ?_
            intro σ hm hF
            show G Γ _ _ _ 113 _ _
            refine g_goto (pc := 113) (tgt := 119) cx (by decide) dX7_flyAll_113 ?_
            refine g_goto (pc := 119) (tgt := 49) cx (by decide) dX7_flyAll_119 ?_
            first
            | exact ih n1 (by omega) f _ (got1 T f) σ hf0 (by rw [(FW_got hwT ⟨hf0, c_54⟩).2]; omega) (by rw [(FW_got hwT ⟨hf0, c_54⟩).2]; omega) (FW_got hwT ⟨hf0, c_54⟩).1 (by rw [if_pos c_78] at hR; exact hR) hm hF
            | exact ih n1 (by omega) (f + 1) _ T σ (by omega) (by omega) (by omega) hwT (by rw [if_neg c_78] at hR; exact hR) hm hF
      obtain rfl : n = 0 := by omega
      exact J49 (T 23 0).toNat 0 x2 T σ (Int.le_refl _) (by omega) (by omega) hwT (by unfold flyF; rw [← hR]; rfl) hm hF
    · skip
      obtain ⟨n1, rfl⟩ : ∃ n1, n = n1 + 1 := ⟨n - 1, by omega⟩
      obtain rfl : m = (n1 : Int) := by omega
      have hf := hwT.2.1 (n1 : Int) (by omega) (by omega)
      obtain ⟨f1, f2, f3, f4⟩ := id hf
      refine z_al_3_0 (pc := 11) cx dX7_flyAll_11 ?_
      refine m_get (pc := 12) cx hm fl_X7_68 rfl dX7_flyAll_12 ?_
      refine z_il_3_1 (pc := 15) cx dX7_flyAll_15 ?_
      refine m_iald (pc := 16) (k := 24) (L := 64) cx hm ⟨rfl, rfl, by decide, by decide⟩ dX7_flyAll_16 (by omega) ?_
      refine z_is_3_2 (pc := 17) cx dX7_flyAll_17 ?_
      have J41 : ∀ (U : mS) (x2 : Option Value) (σ : hS), U = (if lostF T (n1 : Int) = true then remF (mw T 20 (T 24 (n1 : Int)) (T 20 (T 24 (n1 : Int)) + 1)) (n1 : Int) else T) → mat (gdA Γ) ad σ h U → mFr ad h σ0 σ → G Γ σ 0 0 41 [some (.ref h), some (.int (iI ((n1 : Int)))), x2] [] := by
        intro U x2 σ hU hm hF
        have hUw := FW_lost hwT (n := n1) (by omega)
        rw [← hU] at hUw
        refine z_ii_3_1 (pc := 41) cx dX7_flyAll_41 ?_
        refine g_goto (pc := 44) (tgt := 7) cx (by decide) dX7_flyAll_44 ?_
        exact ih n1 (by omega) _ _ U σ (by omega) hUw.2 hUw.1 (by rw [hU]; exact hR) hm hF
      refine z_al_3_0 (pc := 18) cx dX7_flyAll_18 ?_
      refine z_il_3_1 (pc := 19) cx dX7_flyAll_19 ?_
      refine m_callV (pc := 20) cx lk_X7_154 (c_X7_isLost hm hf hwT.2.2.1 hwT.2.2.2) hm hF rfl gy_X7_isLost ⟨⟨by decide, by decide⟩, by decide, by decide⟩ ⟨rfl, rfl⟩ rfl rfl (Nat.le_of_ble_eq_true rfl) dX7_flyAll_20 ?_
      intro σ hm hF
      show G Γ _ _ _ 23 _ (.int (iI _) :: _)
      refine z_if_eq (pc := 23) (tgt := 41) cx (by have := bz_r (lostF T (n1 : Int)); omega) (by decide) dX7_flyAll_23 (fun c_23 => ?_) (fun c_23 => ?_)
      · skip
        exact J41 _ _ σ (by rw [if_neg (by rw [bz_0.mp c_23]; decide)]) hm hF
      · skip
        refine z_al_3_0 (pc := 26) cx dX7_flyAll_26 ?_
        refine m_get (pc := 27) cx hm fl_X7_59 rfl dX7_flyAll_27 ?_
        refine z_il_3_2 (pc := 30) cx dX7_flyAll_30 ?_
        refine g_dup2 (pc := 31) cx rfl rfl dX7_flyAll_31 ?_
        refine m_iald (pc := 32) (k := 20) (L := 5) cx hm ⟨rfl, rfl, by decide, by decide⟩ dX7_flyAll_32 (by omega) ?_
        refine z_iconst (pc := 33) cx dX7_flyAll_33 ?_
        refine z_iadd (pc := 34) cx dX7_flyAll_34 ?_
        refine m_iast (pc := 35) (k := 20) (L := 5) cx hm hF ⟨rfl, rfl, by decide, by decide⟩ dX7_flyAll_35 (by omega) ?_
        intro σ hm hF
        refine z_al_3_0 (pc := 36) cx dX7_flyAll_36 ?_
        refine z_il_3_1 (pc := 37) cx dX7_flyAll_37 ?_
        refine m_callV (pc := 38) cx lk_X7_157 (c_X7_remove hm (f := (n1 : Int)) (by rw [mw_k (by decide)]; omega) (by rw [mw_k (by decide)]; omega)) hm hF rfl gy_X7_remove ⟨⟨by decide, by decide⟩, by decide, by decide⟩ ⟨rfl, rfl⟩ rfl rfl (Nat.le_of_ble_eq_true rfl) dX7_flyAll_38 ?_
        intro σ hm hF
        show G Γ _ _ _ 41 _ _
        exact J41 _ _ σ (by rw [if_pos (bz_n0.mp c_23)]) hm hF
  exact J7 (S 23 0).toNat _ _ S σ0 (by omega) (by omega) hw rfl hm hF

set_option maxRecDepth 100000 in
set_option maxHeartbeats 4000000 in
theorem c_X7_serve {lc : Launch} {dA : Nat → ClassId} {ad : Nat → Nat} {σ0 : hS} {h : Nat} {S : mS} (hm : mat dA ad σ0 h S) {w : Nat} (hw : w < 6) (hl : LW S (w : Int)) (ht : mTm S) (hs : mSch S 2) : gM lc dA yX7_serve (.code yX7_serve cX7_serve 3 none) { frames := 3, cells := 0, slots := 0, locals := 75 } σ0 [.ref h, .int (iI (w : Int))] (mP dA ad h σ0 none (svF S w)) nX := by
  refine gM_body (by decide +kernel) (by simp [Value.category]) (Nat.le_of_ble_eq_true rfl) (fun Γ hdA cx rx nx => ?_)
  subst hdA
  have cx : CX lc Γ cX7_serve RX7 3 { frames := 3, cells := 0, slots := 0, locals := 75 } := cx
  show G Γ σ0 0 0 0 [some (.ref h), some (.int (iI (w : Int))), none] []
  have hF : mFr ad h σ0 σ0 := mFr.rf
  obtain ⟨l1, l2, l3, l4⟩ := id hl
  have J107 : ∀ (U : mS) (x2 : Option Value) (σ : hS), U = (if svA S (w : Int) = true then svB S (w : Int) else S) → mat (gdA Γ) ad σ h U → mFr ad h σ0 σ → G Γ σ 0 0 107 [some (.ref h), some (.int (iI ((w : Int)))), x2] [] := by
    intro U x2 σ hU hm hF
    have hu := svU_ok hl
    rw [← hU] at hu
    refine z_al_3_0 (pc := 107) cx dX7_serve_107 ?_
    refine m_get (pc := 108) cx hm fl_X7_83 rfl dX7_serve_108 ?_
    refine z_il_3_1 (pc := 111) cx dX7_serve_111 ?_
    refine m_iald (pc := 112) (k := 29) (L := 6) cx hm ⟨rfl, rfl, by decide, by decide⟩ dX7_serve_112 (by omega) ?_
    refine z_if_le (pc := 113) (tgt := 158) cx (by omega) (by decide) dX7_serve_113 (fun c_113 => ?_) (fun c_113 => ?_)
    · skip
      exact g_return (pc := 158) cx rx (by decide) (by decide) dX7_serve_158 ⟨rfl, (by
        unfold svF
        rw [← hU]
        unfold svE
        first
        | (rw [if_neg (by omega)]; exact hm)
        | (rw [if_pos (by omega), if_pos c_137]; exact hm)
        | (rw [if_pos (by omega), if_neg c_137]; exact hm)), hF⟩
    · skip
      refine z_al_3_0 (pc := 116) cx dX7_serve_116 ?_
      refine m_get (pc := 117) cx hm fl_X7_83 rfl dX7_serve_117 ?_
      refine z_il_3_1 (pc := 120) cx dX7_serve_120 ?_
      refine g_dup2 (pc := 121) cx rfl rfl dX7_serve_121 ?_
      refine m_iald (pc := 122) (k := 29) (L := 6) cx hm ⟨rfl, rfl, by decide, by decide⟩ dX7_serve_122 (by omega) ?_
      refine z_iconst (pc := 123) cx dX7_serve_123 ?_
      refine z_isub (pc := 124) cx dX7_serve_124 ?_
      refine m_iast (pc := 125) (k := 29) (L := 6) cx hm hF ⟨rfl, rfl, by decide, by decide⟩ dX7_serve_125 (by omega) ?_
      intro σ hm hF
      refine z_al_3_0 (pc := 126) cx dX7_serve_126 ?_
      refine m_get (pc := 127) cx hm fl_X7_86 rfl dX7_serve_127 ?_
      refine z_il_3_1 (pc := 130) cx dX7_serve_130 ?_
      refine z_al_3_0 (pc := 131) cx dX7_serve_131 ?_
      refine m_get (pc := 132) cx hm fl_X7_83 rfl dX7_serve_132 ?_
      refine z_il_3_1 (pc := 135) cx dX7_serve_135 ?_
      refine m_iald (pc := 136) (k := 29) (L := 6) cx hm ⟨rfl, rfl, by decide, by decide⟩ dX7_serve_136 (by omega) ?_
      refine z_if_ne (pc := 137) (tgt := 151) cx (by rw [mw_s]; omega) (by decide) dX7_serve_137 (fun c_137 => ?_) (fun c_137 => ?_)
      · skip
        refine z_al_3_0 (pc := 151) cx dX7_serve_151 ?_
        refine m_get (pc := 152) cx hm fl_X7_86 rfl dX7_serve_152 ?_
        refine z_il_3_1 (pc := 155) cx dX7_serve_155 ?_
        refine m_iald (pc := 156) (k := 30) (L := 6) cx hm ⟨rfl, rfl, by decide, by decide⟩ dX7_serve_156 (by omega) ?_
        refine m_iast (pc := 157) (k := 30) (L := 6) cx hm hF ⟨rfl, rfl, by decide, by decide⟩ dX7_serve_157 (by omega) ?_
        intro σ hm hF
        exact g_return (pc := 158) cx rx (by decide) (by decide) dX7_serve_158 ⟨rfl, (by
          unfold svF
          rw [← hU]
          unfold svE
          first
          | (rw [if_neg (by omega)]; exact hm)
          | (rw [if_pos (by omega), if_pos c_137]; exact hm)
          | (rw [if_pos (by omega), if_neg c_137]; exact hm)), hF⟩
      · skip
        refine z_al_3_0 (pc := 140) cx dX7_serve_140 ?_
        refine m_get (pc := 141) cx hm fl_X7_86 rfl dX7_serve_141 ?_
        refine z_il_3_1 (pc := 144) cx dX7_serve_144 ?_
        refine m_iald (pc := 145) (k := 30) (L := 6) cx hm ⟨rfl, rfl, by decide, by decide⟩ dX7_serve_145 (by omega) ?_
        refine z_iconst (pc := 146) cx dX7_serve_146 ?_
        refine z_iadd (pc := 147) cx dX7_serve_147 ?_
        refine g_goto (pc := 148) (tgt := 157) cx (by decide) dX7_serve_148 ?_
        refine m_iast (pc := 157) (k := 30) (L := 6) cx hm hF ⟨rfl, rfl, by decide, by decide⟩ dX7_serve_157 (by omega) ?_
        intro σ hm hF
        exact g_return (pc := 158) cx rx (by decide) (by decide) dX7_serve_158 ⟨rfl, (by
          unfold svF
          rw [← hU]
          unfold svE
          first
          | (rw [if_neg (by omega)]; exact hm)
          | (rw [if_pos (by omega), if_pos c_137]; exact hm)
          | (rw [if_pos (by omega), if_neg c_137]; exact hm)), hF⟩
  refine z_al_3_0 (pc := 0) cx dX7_serve_0 ?_
  refine m_get (pc := 1) cx hm fl_X7_83 rfl dX7_serve_1 ?_
  refine z_il_3_1 (pc := 4) cx dX7_serve_4 ?_
  refine m_iald (pc := 5) (k := 29) (L := 6) cx hm ⟨rfl, rfl, by decide, by decide⟩ dX7_serve_5 (by omega) ?_
  refine z_if_ne (pc := 6) (tgt := 107) cx (by omega) (by decide) dX7_serve_6 (fun c_6 => ?_) (fun c_6 => ?_)
  · skip
    exact J107 _ _ _ (by rw [svA, decide_eq_false c_6]; rfl) hm hF
  · skip
    refine z_al_3_0 (pc := 9) cx dX7_serve_9 ?_
    refine m_get (pc := 10) cx hm fl_X7_74 rfl dX7_serve_10 ?_
    refine z_il_3_1 (pc := 13) cx dX7_serve_13 ?_
    refine m_zald (pc := 14) (k := 26) (L := 6) cx hm ⟨rfl, rfl, by decide, by decide⟩ dX7_serve_14 (by omega) ?_
    refine z_if_ne (pc := 15) (tgt := 107) cx (by omega) (by decide) dX7_serve_15 (fun c_15 => ?_) (fun c_15 => ?_)
    · skip
      exact J107 _ _ _ (by rw [svA, decide_eq_false c_15, Bool.and_false]; rfl) hm hF
    · skip
      refine z_al_3_0 (pc := 18) cx dX7_serve_18 ?_
      refine m_get (pc := 19) cx hm fl_X7_77 rfl dX7_serve_19 ?_
      refine z_il_3_1 (pc := 22) cx dX7_serve_22 ?_
      refine m_iald (pc := 23) (k := 27) (L := 6) cx hm ⟨rfl, rfl, by decide, by decide⟩ dX7_serve_23 (by omega) ?_
      refine z_if_le (pc := 24) (tgt := 107) cx (by omega) (by decide) dX7_serve_24 (fun c_24 => ?_) (fun c_24 => ?_)
      · skip
        exact J107 _ _ _ (by rw [svA, decide_eq_false (show ¬ 0 < S 27 (w : Int) by omega), Bool.and_false]; rfl) hm hF
      · skip
        have l5 := l4 c_24
        refine z_al_3_0 (pc := 27) cx dX7_serve_27 ?_
        refine z_il_3_1 (pc := 28) cx dX7_serve_28 ?_
        refine z_al_3_0 (pc := 29) cx dX7_serve_29 ?_
        refine m_get (pc := 30) cx hm fl_X7_80 rfl dX7_serve_30 ?_
        refine z_iconst (pc := 33) cx dX7_serve_33 ?_
        refine z_il_3_1 (pc := 34) cx dX7_serve_34 ?_
        refine z_imul (pc := 35) cx dX7_serve_35 ?_
        refine m_iald (pc := 36) (k := 28) (L := 24) cx hm ⟨rfl, rfl, by decide, by decide⟩ dX7_serve_36 (by omega) ?_
        refine m_callV (pc := 37) cx lk_X7_164 (c_X7_isFree hm (m := (S 28 (4 * (w : Int))).toNat) (by omega) (by omega) ht hs (by omega)) hm hF rfl gy_X7_isFree ⟨⟨by decide, by decide⟩, by decide, by decide⟩ ⟨rfl, rfl⟩ rfl rfl (Nat.le_of_ble_eq_true rfl) dX7_serve_37 ?_
        intro σ hm hF
        show G Γ _ _ _ 40 _ (.int (iI _) :: _)
        refine z_if_eq (pc := 40) (tgt := 107) cx (by have := bz_r (freeF S (w : Int) (S 28 (4 * (w : Int))).toNat); omega) (by decide) dX7_serve_40 (fun c_40 => ?_) (fun c_40 => ?_)
        · skip
          exact J107 _ _ _ (by rw [svA, bz_0.mp c_40, Bool.and_false]; rfl) hm hF
        · skip
          refine z_al_3_0 (pc := 43) cx dX7_serve_43 ?_
          refine m_get (pc := 44) cx hm fl_X7_83 rfl dX7_serve_44 ?_
          refine z_il_3_1 (pc := 47) cx dX7_serve_47 ?_
          refine z_al_3_0 (pc := 48) cx dX7_serve_48 ?_
          refine m_get (pc := 49) cx hm fl_X7_80 rfl dX7_serve_49 ?_
          refine z_iconst (pc := 52) cx dX7_serve_52 ?_
          refine z_il_3_1 (pc := 53) cx dX7_serve_53 ?_
          refine z_imul (pc := 54) cx dX7_serve_54 ?_
          refine m_iald (pc := 55) (k := 28) (L := 24) cx hm ⟨rfl, rfl, by decide, by decide⟩ dX7_serve_55 (by omega) ?_
          refine m_iast (pc := 56) (k := 29) (L := 6) cx hm hF ⟨rfl, rfl, by decide, by decide⟩ dX7_serve_56 (by omega) ?_
          intro σ hm hF
          refine z_al_3_0 (pc := 57) cx dX7_serve_57 ?_
          refine m_get (pc := 58) cx hm fl_X7_77 rfl dX7_serve_58 ?_
          refine z_il_3_1 (pc := 61) cx dX7_serve_61 ?_
          refine g_dup2 (pc := 62) cx rfl rfl dX7_serve_62 ?_
          refine m_iald (pc := 63) (k := 27) (L := 6) cx hm ⟨rfl, rfl, by decide, by decide⟩ dX7_serve_63 (by omega) ?_
          refine z_iconst (pc := 64) cx dX7_serve_64 ?_
          refine z_isub (pc := 65) cx dX7_serve_65 ?_
          refine m_iast (pc := 66) (k := 27) (L := 6) cx hm hF ⟨rfl, rfl, by decide, by decide⟩ dX7_serve_66 (by omega) ?_
          intro σ hm hF
          refine z_iconst (pc := 67) cx dX7_serve_67 ?_
          refine z_is_3_2 (pc := 68) cx dX7_serve_68 ?_
          have J69 : ∀ (n k : Nat) (T : mS) (σ : hS), k + n = (S 27 (w : Int) - 1).toNat → T = itN k (sv1 (w : Int)) (mw (mw S 29 (w : Int) (S 28 (4 * (w : Int)))) 27 (w : Int) ((mw S 29 (w : Int) (S 28 (4 * (w : Int)))) 27 (w : Int) - 1)) → mat (gdA Γ) ad σ h T → mFr ad h σ0 σ → G Γ σ 0 0 69 [some (.ref h), some (.int (iI ((w : Int)))), some (.int (iI ((k : Int))))] [] := by
            intro n
            induction n using Nat.strongRecOn with
            | _ n ih =>
            intro k T σ hkn hT hm hF
            have e27 : T 27 (w : Int) = S 27 (w : Int) - 1 := by rw [hT, sv_at _ k _ 27 (by decide), mw_s, mw_k (by decide)]
            refine z_il_3_2 (pc := 69) cx dX7_serve_69 ?_
            refine z_al_3_0 (pc := 70) cx dX7_serve_70 ?_
            refine m_get (pc := 71) cx hm fl_X7_77 rfl dX7_serve_71 ?_
            refine z_il_3_1 (pc := 74) cx dX7_serve_74 ?_
            refine m_iald (pc := 75) (k := 27) (L := 6) cx hm ⟨rfl, rfl, by decide, by decide⟩ dX7_serve_75 (by omega) ?_
            refine z_icmp_ge (pc := 76) (tgt := 107) cx (by omega) (by decide) dX7_serve_76 (fun c_76 => ?_) (fun c_76 => ?_)
            · skip
              exact J107 _ _ _ (by rw [svA, decide_eq_true c_6, decide_eq_true c_15, decide_eq_true c_24, bz_n0.mp c_40]; show T = svB S (w : Int); rw [hT, svB, show (S 27 (w : Int) - 1).toNat = k by omega]) hm hF
            · skip
              refine z_al_3_0 (pc := 79) cx dX7_serve_79 ?_
              refine m_get (pc := 80) cx hm fl_X7_80 rfl dX7_serve_80 ?_
              refine z_iconst (pc := 83) cx dX7_serve_83 ?_
              refine z_il_3_1 (pc := 84) cx dX7_serve_84 ?_
              refine z_imul (pc := 85) cx dX7_serve_85 ?_
              refine z_il_3_2 (pc := 86) cx dX7_serve_86 ?_
              refine z_iadd (pc := 87) cx dX7_serve_87 ?_
              refine z_al_3_0 (pc := 88) cx dX7_serve_88 ?_
              refine m_get (pc := 89) cx hm fl_X7_80 rfl dX7_serve_89 ?_
              refine z_iconst (pc := 92) cx dX7_serve_92 ?_
              refine z_il_3_1 (pc := 93) cx dX7_serve_93 ?_
              refine z_imul (pc := 94) cx dX7_serve_94 ?_
              refine z_il_3_2 (pc := 95) cx dX7_serve_95 ?_
              refine z_iadd (pc := 96) cx dX7_serve_96 ?_
              refine z_iconst (pc := 97) cx dX7_serve_97 ?_
              refine z_iadd (pc := 98) cx dX7_serve_98 ?_
              refine m_iald (pc := 99) (k := 28) (L := 24) cx hm ⟨rfl, rfl, by decide, by decide⟩ dX7_serve_99 (by omega) ?_
              refine m_iast (pc := 100) (k := 28) (L := 24) cx hm hF ⟨rfl, rfl, by decide, by decide⟩ dX7_serve_100 (by omega) ?_
              intro σ hm hF
              refine z_ii_3_2 (pc := 101) cx dX7_serve_101 ?_
              refine g_goto (pc := 104) (tgt := 69) cx (by decide) dX7_serve_104 ?_
              exact ih (n - 1) (by omega) (k + 1) _ σ (by omega) (show _ = sv1 (w : Int) (itN k (sv1 (w : Int)) _) k by rw [← hT]; rfl) hm hF
          exact J69 _ 0 _ σ (Nat.zero_add _) rfl hm hF

set_option maxRecDepth 100000 in
set_option maxHeartbeats 4000000 in
theorem c_X7_tickOnce {lc : Launch} {dA : Nat → ClassId} {ad : Nat → Nat} {σ0 : hS} {h : Nat} {S : mS} (hm : mat dA ad σ0 h S) (hk : TK S) : gM lc dA yX7_tickOnce (.code yX7_tickOnce cX7_tickOnce 2 none) { frames := 4, cells := 0, slots := 0, locals := 97 } σ0 [.ref h] (mP dA ad h σ0 none (tckF S)) nX := by
  refine gM_body (by decide +kernel) (by simp [Value.category]) (Nat.le_of_ble_eq_true rfl) (fun Γ hdA cx rx nx => ?_)
  subst hdA
  have cx : CX lc Γ cX7_tickOnce RX7 2 { frames := 4, cells := 0, slots := 0, locals := 97 } := cx
  show G Γ σ0 0 0 0 [some (.ref h), none] []
  have hF : mFr ad h σ0 σ0 := mFr.rf
  obtain ⟨⟨a1, a2, a3, a4⟩, ⟨b1, b2, b3, b4, b5⟩, hB, hC⟩ := hk
  have a2' := a2
  unfold mTm at a2'
  have hr := tmod_r (S 15 0) 32 (by decide)
  have J30 : ∀ (U : mS) (σ : hS), U = tckA S → mat (gdA Γ) ad σ h U → mFr ad h σ0 σ → G Γ σ 0 0 30 [some (.ref h), none] [] := by
    intro U σ hU hm hF
    subst hU
    have J43 : ∀ (V : mS) (σ : hS), V = tckB (tckA S) → mat (gdA Γ) ad σ h V → mFr ad h σ0 σ → G Γ σ 0 0 43 [some (.ref h), none] [] := by
      intro V σ hV hm hF
      subst hV
      refine z_al_2_0 (pc := 43) cx dX7_tickOnce_43 ?_
      refine m_callV (pc := 44) cx lk_X7_177 (c_X7_flyAll hm hB) hm hF rfl gy_X7_flyAll ⟨⟨by decide, by decide⟩, by decide, by decide⟩ ⟨rfl, rfl⟩ rfl rfl (Nat.le_of_ble_eq_true rfl) dX7_tickOnce_44 ?_
      intro σ hm hF
      show G Γ _ _ _ 47 _ _
      refine z_iconst (pc := 47) cx dX7_tickOnce_47 ?_
      refine z_is_2_1 (pc := 48) cx dX7_tickOnce_48 ?_
      have J49 : ∀ (n w : Nat) (σ : hS), w + n = 6 → mat (gdA Γ) ad σ h (itN w svF (flyF (tckB (tckA S)))) → mFr ad h σ0 σ → G Γ σ 0 0 49 [some (.ref h), some (.int (iI ((w : Int))))] [] := by
        intro n
        induction n using Nat.strongRecOn with
        | _ n ih =>
        intro w σ hwn hm hF
        refine z_il_2_1 (pc := 49) cx dX7_tickOnce_49 ?_
        refine z_bipush (pc := 50) cx rfl dX7_tickOnce_50 ?_
        refine z_icmp_ge (pc := 52) (tgt := 66) cx (by omega) (by decide) dX7_tickOnce_52 (fun c_52 => ?_) (fun c_52 => ?_)
        · obtain rfl : w = 6 := by omega
          refine z_al_2_0 (pc := 66) cx dX7_tickOnce_66 ?_
          refine g_dup (pc := 67) cx rfl dX7_tickOnce_67 ?_
          refine m_get (pc := 68) cx hm fl_X7_141 rfl dX7_tickOnce_68 ?_
          refine z_iconst (pc := 71) cx dX7_tickOnce_71 ?_
          refine z_iadd (pc := 72) cx dX7_tickOnce_72 ?_
          refine m_put (pc := 73) cx hm hF fl_X7_141 ⟨rfl, rfl, by decide, rfl⟩ (mFs_15 _ _ _) dX7_tickOnce_73 ?_
          intro σ hm hF
          exact g_return (pc := 76) cx rx (by decide) (by decide) dX7_tickOnce_76 ⟨rfl, hm, hF⟩
        · skip
          have hc := hC w (by omega)
          refine z_al_2_0 (pc := 55) cx dX7_tickOnce_55 ?_
          refine z_il_2_1 (pc := 56) cx dX7_tickOnce_56 ?_
          refine m_callV (pc := 57) cx lk_X7_180 (c_X7_serve hm (w := w) (by omega) hc.1 hc.2.1 hc.2.2) hm hF rfl gy_X7_serve ⟨⟨by decide, by decide⟩, by decide, by decide⟩ ⟨rfl, rfl⟩ rfl rfl (Nat.le_of_ble_eq_true rfl) dX7_tickOnce_57 ?_
          intro σ hm hF
          show G Γ _ _ _ 60 _ _
          refine z_ii_2_1 (pc := 60) cx dX7_tickOnce_60 ?_
          refine g_goto (pc := 63) (tgt := 49) cx (by decide) dX7_tickOnce_63 ?_
          exact ih (n - 1) (by omega) (w + 1) σ (by omega) hm hF
      exact J49 6 0 σ rfl hm hF
    refine z_al_2_0 (pc := 30) cx dX7_tickOnce_30 ?_
    refine m_get (pc := 31) cx hm fl_X7_25 rfl dX7_tickOnce_31 ?_
    refine z_iconst (pc := 34) cx dX7_tickOnce_34 ?_
    refine m_iald (pc := 35) (k := 7) (L := 3) cx hm ⟨rfl, rfl, by decide, by decide⟩ dX7_tickOnce_35 (by omega) ?_
    refine z_if_ge (pc := 36) (tgt := 43) cx (by omega) (by decide) dX7_tickOnce_36 (fun c_36 => ?_) (fun c_36 => ?_)
    · skip
      exact J43 _ _ (by rw [tckB, if_neg (by omega)]) hm hF
    · skip
      refine z_al_2_0 (pc := 39) cx dX7_tickOnce_39 ?_
      refine m_callV (pc := 40) cx lk_X7_174 (c_X7_talkAll hm b3 b2 b4 b5) hm hF rfl gy_X7_talkAll ⟨⟨by decide, by decide⟩, by decide, by decide⟩ ⟨rfl, rfl⟩ rfl rfl (Nat.le_of_ble_eq_true rfl) dX7_tickOnce_40 ?_
      intro σ hm hF
      show G Γ _ _ _ 43 _ _
      exact J43 _ _ (by rw [tckB, if_pos c_36]) hm hF
  refine z_al_2_0 (pc := 0) cx dX7_tickOnce_0 ?_
  refine m_get (pc := 1) cx hm fl_X7_25 rfl dX7_tickOnce_1 ?_
  refine z_iconst (pc := 4) cx dX7_tickOnce_4 ?_
  refine m_iald (pc := 5) (k := 7) (L := 3) cx hm ⟨rfl, rfl, by decide, by decide⟩ dX7_tickOnce_5 (by omega) ?_
  refine z_if_lt (pc := 6) (tgt := 30) cx (by omega) (by decide) dX7_tickOnce_6 (fun c_6 => ?_) (fun c_6 => ?_)
  · skip
    have J43 : ∀ (V : mS) (σ : hS), V = tckB (tckA S) → mat (gdA Γ) ad σ h V → mFr ad h σ0 σ → G Γ σ 0 0 43 [some (.ref h), none] [] := by
      intro V σ hV hm hF
      subst hV
      refine z_al_2_0 (pc := 43) cx dX7_tickOnce_43 ?_
      refine m_callV (pc := 44) cx lk_X7_177 (c_X7_flyAll hm hB) hm hF rfl gy_X7_flyAll ⟨⟨by decide, by decide⟩, by decide, by decide⟩ ⟨rfl, rfl⟩ rfl rfl (Nat.le_of_ble_eq_true rfl) dX7_tickOnce_44 ?_
      intro σ hm hF
      show G Γ _ _ _ 47 _ _
      refine z_iconst (pc := 47) cx dX7_tickOnce_47 ?_
      refine z_is_2_1 (pc := 48) cx dX7_tickOnce_48 ?_
      have J49 : ∀ (n w : Nat) (σ : hS), w + n = 6 → mat (gdA Γ) ad σ h (itN w svF (flyF (tckB (tckA S)))) → mFr ad h σ0 σ → G Γ σ 0 0 49 [some (.ref h), some (.int (iI ((w : Int))))] [] := by
        intro n
        induction n using Nat.strongRecOn with
        | _ n ih =>
        intro w σ hwn hm hF
        refine z_il_2_1 (pc := 49) cx dX7_tickOnce_49 ?_
        refine z_bipush (pc := 50) cx rfl dX7_tickOnce_50 ?_
        refine z_icmp_ge (pc := 52) (tgt := 66) cx (by omega) (by decide) dX7_tickOnce_52 (fun c_52 => ?_) (fun c_52 => ?_)
        · obtain rfl : w = 6 := by omega
          refine z_al_2_0 (pc := 66) cx dX7_tickOnce_66 ?_
          refine g_dup (pc := 67) cx rfl dX7_tickOnce_67 ?_
          refine m_get (pc := 68) cx hm fl_X7_141 rfl dX7_tickOnce_68 ?_
          refine z_iconst (pc := 71) cx dX7_tickOnce_71 ?_
          refine z_iadd (pc := 72) cx dX7_tickOnce_72 ?_
          refine m_put (pc := 73) cx hm hF fl_X7_141 ⟨rfl, rfl, by decide, rfl⟩ (mFs_15 _ _ _) dX7_tickOnce_73 ?_
          intro σ hm hF
          exact g_return (pc := 76) cx rx (by decide) (by decide) dX7_tickOnce_76 ⟨rfl, hm, hF⟩
        · skip
          have hc := hC w (by omega)
          refine z_al_2_0 (pc := 55) cx dX7_tickOnce_55 ?_
          refine z_il_2_1 (pc := 56) cx dX7_tickOnce_56 ?_
          refine m_callV (pc := 57) cx lk_X7_180 (c_X7_serve hm (w := w) (by omega) hc.1 hc.2.1 hc.2.2) hm hF rfl gy_X7_serve ⟨⟨by decide, by decide⟩, by decide, by decide⟩ ⟨rfl, rfl⟩ rfl rfl (Nat.le_of_ble_eq_true rfl) dX7_tickOnce_57 ?_
          intro σ hm hF
          show G Γ _ _ _ 60 _ _
          refine z_ii_2_1 (pc := 60) cx dX7_tickOnce_60 ?_
          refine g_goto (pc := 63) (tgt := 49) cx (by decide) dX7_tickOnce_63 ?_
          exact ih (n - 1) (by omega) (w + 1) σ (by omega) hm hF
      exact J49 6 0 σ rfl hm hF
    exact J30 _ _ (by rw [tckA, decide_eq_false (show ¬ 0 ≤ S 7 1 by omega)]; rfl) hm hF
  · skip
    refine z_al_2_0 (pc := 9) cx dX7_tickOnce_9 ?_
    refine m_get (pc := 10) cx hm fl_X7_141 rfl dX7_tickOnce_10 ?_
    refine z_bipush (pc := 13) cx rfl dX7_tickOnce_13 ?_
    refine z_irem (pc := 15) cx (by omega) dX7_tickOnce_15 ?_
    refine z_if_ne (pc := 16) (tgt := 30) cx (by omega) (by decide) dX7_tickOnce_16 (fun c_16 => ?_) (fun c_16 => ?_)
    · skip
      have J43 : ∀ (V : mS) (σ : hS), V = tckB (tckA S) → mat (gdA Γ) ad σ h V → mFr ad h σ0 σ → G Γ σ 0 0 43 [some (.ref h), none] [] := by
        intro V σ hV hm hF
        subst hV
        refine z_al_2_0 (pc := 43) cx dX7_tickOnce_43 ?_
        refine m_callV (pc := 44) cx lk_X7_177 (c_X7_flyAll hm hB) hm hF rfl gy_X7_flyAll ⟨⟨by decide, by decide⟩, by decide, by decide⟩ ⟨rfl, rfl⟩ rfl rfl (Nat.le_of_ble_eq_true rfl) dX7_tickOnce_44 ?_
        intro σ hm hF
        show G Γ _ _ _ 47 _ _
        refine z_iconst (pc := 47) cx dX7_tickOnce_47 ?_
        refine z_is_2_1 (pc := 48) cx dX7_tickOnce_48 ?_
        have J49 : ∀ (n w : Nat) (σ : hS), w + n = 6 → mat (gdA Γ) ad σ h (itN w svF (flyF (tckB (tckA S)))) → mFr ad h σ0 σ → G Γ σ 0 0 49 [some (.ref h), some (.int (iI ((w : Int))))] [] := by
          intro n
          induction n using Nat.strongRecOn with
          | _ n ih =>
          intro w σ hwn hm hF
          refine z_il_2_1 (pc := 49) cx dX7_tickOnce_49 ?_
          refine z_bipush (pc := 50) cx rfl dX7_tickOnce_50 ?_
          refine z_icmp_ge (pc := 52) (tgt := 66) cx (by omega) (by decide) dX7_tickOnce_52 (fun c_52 => ?_) (fun c_52 => ?_)
          · obtain rfl : w = 6 := by omega
            refine z_al_2_0 (pc := 66) cx dX7_tickOnce_66 ?_
            refine g_dup (pc := 67) cx rfl dX7_tickOnce_67 ?_
            refine m_get (pc := 68) cx hm fl_X7_141 rfl dX7_tickOnce_68 ?_
            refine z_iconst (pc := 71) cx dX7_tickOnce_71 ?_
            refine z_iadd (pc := 72) cx dX7_tickOnce_72 ?_
            refine m_put (pc := 73) cx hm hF fl_X7_141 ⟨rfl, rfl, by decide, rfl⟩ (mFs_15 _ _ _) dX7_tickOnce_73 ?_
            intro σ hm hF
            exact g_return (pc := 76) cx rx (by decide) (by decide) dX7_tickOnce_76 ⟨rfl, hm, hF⟩
          · skip
            have hc := hC w (by omega)
            refine z_al_2_0 (pc := 55) cx dX7_tickOnce_55 ?_
            refine z_il_2_1 (pc := 56) cx dX7_tickOnce_56 ?_
            refine m_callV (pc := 57) cx lk_X7_180 (c_X7_serve hm (w := w) (by omega) hc.1 hc.2.1 hc.2.2) hm hF rfl gy_X7_serve ⟨⟨by decide, by decide⟩, by decide, by decide⟩ ⟨rfl, rfl⟩ rfl rfl (Nat.le_of_ble_eq_true rfl) dX7_tickOnce_57 ?_
            intro σ hm hF
            show G Γ _ _ _ 60 _ _
            refine z_ii_2_1 (pc := 60) cx dX7_tickOnce_60 ?_
            refine g_goto (pc := 63) (tgt := 49) cx (by decide) dX7_tickOnce_63 ?_
            exact ih (n - 1) (by omega) (w + 1) σ (by omega) hm hF
        exact J49 6 0 σ rfl hm hF
      exact J30 _ _ (by rw [tckA, decide_eq_true c_6, decide_eq_false c_16]; rfl) hm hF
    · skip
      refine z_al_2_0 (pc := 19) cx dX7_tickOnce_19 ?_
      refine m_callV (pc := 20) cx lk_X7_167 (c_X7_isQuiet hm a3 a4) hm hF rfl gy_X7_isQuiet ⟨⟨by decide, by decide⟩, by decide, by decide⟩ ⟨rfl, rfl⟩ rfl rfl (Nat.le_of_ble_eq_true rfl) dX7_tickOnce_20 ?_
      intro σ hm hF
      show G Γ _ _ _ 23 _ (.int (iI _) :: _)
      refine z_if_eq (pc := 23) (tgt := 30) cx (by have := bz_r (quietF S); omega) (by decide) dX7_tickOnce_23 (fun c_23 => ?_) (fun c_23 => ?_)
      · skip
        have J43 : ∀ (V : mS) (σ : hS), V = tckB (tckA S) → mat (gdA Γ) ad σ h V → mFr ad h σ0 σ → G Γ σ 0 0 43 [some (.ref h), none] [] := by
          intro V σ hV hm hF
          subst hV
          refine z_al_2_0 (pc := 43) cx dX7_tickOnce_43 ?_
          refine m_callV (pc := 44) cx lk_X7_177 (c_X7_flyAll hm hB) hm hF rfl gy_X7_flyAll ⟨⟨by decide, by decide⟩, by decide, by decide⟩ ⟨rfl, rfl⟩ rfl rfl (Nat.le_of_ble_eq_true rfl) dX7_tickOnce_44 ?_
          intro σ hm hF
          show G Γ _ _ _ 47 _ _
          refine z_iconst (pc := 47) cx dX7_tickOnce_47 ?_
          refine z_is_2_1 (pc := 48) cx dX7_tickOnce_48 ?_
          have J49 : ∀ (n w : Nat) (σ : hS), w + n = 6 → mat (gdA Γ) ad σ h (itN w svF (flyF (tckB (tckA S)))) → mFr ad h σ0 σ → G Γ σ 0 0 49 [some (.ref h), some (.int (iI ((w : Int))))] [] := by
            intro n
            induction n using Nat.strongRecOn with
            | _ n ih =>
            intro w σ hwn hm hF
            refine z_il_2_1 (pc := 49) cx dX7_tickOnce_49 ?_
            refine z_bipush (pc := 50) cx rfl dX7_tickOnce_50 ?_
            refine z_icmp_ge (pc := 52) (tgt := 66) cx (by omega) (by decide) dX7_tickOnce_52 (fun c_52 => ?_) (fun c_52 => ?_)
            · obtain rfl : w = 6 := by omega
              refine z_al_2_0 (pc := 66) cx dX7_tickOnce_66 ?_
              refine g_dup (pc := 67) cx rfl dX7_tickOnce_67 ?_
              refine m_get (pc := 68) cx hm fl_X7_141 rfl dX7_tickOnce_68 ?_
              refine z_iconst (pc := 71) cx dX7_tickOnce_71 ?_
              refine z_iadd (pc := 72) cx dX7_tickOnce_72 ?_
              refine m_put (pc := 73) cx hm hF fl_X7_141 ⟨rfl, rfl, by decide, rfl⟩ (mFs_15 _ _ _) dX7_tickOnce_73 ?_
              intro σ hm hF
              exact g_return (pc := 76) cx rx (by decide) (by decide) dX7_tickOnce_76 ⟨rfl, hm, hF⟩
            · skip
              have hc := hC w (by omega)
              refine z_al_2_0 (pc := 55) cx dX7_tickOnce_55 ?_
              refine z_il_2_1 (pc := 56) cx dX7_tickOnce_56 ?_
              refine m_callV (pc := 57) cx lk_X7_180 (c_X7_serve hm (w := w) (by omega) hc.1 hc.2.1 hc.2.2) hm hF rfl gy_X7_serve ⟨⟨by decide, by decide⟩, by decide, by decide⟩ ⟨rfl, rfl⟩ rfl rfl (Nat.le_of_ble_eq_true rfl) dX7_tickOnce_57 ?_
              intro σ hm hF
              show G Γ _ _ _ 60 _ _
              refine z_ii_2_1 (pc := 60) cx dX7_tickOnce_60 ?_
              refine g_goto (pc := 63) (tgt := 49) cx (by decide) dX7_tickOnce_63 ?_
              exact ih (n - 1) (by omega) (w + 1) σ (by omega) hm hF
          exact J49 6 0 σ rfl hm hF
        exact J30 _ _ (by rw [tckA, bz_0.mp c_23, Bool.and_false]; rfl) hm hF
      · skip
        refine z_al_2_0 (pc := 26) cx dX7_tickOnce_26 ?_
        refine m_callV (pc := 27) cx lk_X7_171 (c_X7_comeIntoForce hm) hm hF rfl gy_X7_comeIntoForce ⟨⟨by decide, by decide⟩, by decide, by decide⟩ ⟨rfl, rfl⟩ rfl rfl (Nat.le_of_ble_eq_true rfl) dX7_tickOnce_27 ?_
        intro σ hm hF
        show G Γ _ _ _ 30 _ _
        have J43 : ∀ (V : mS) (σ : hS), V = tckB (tckA S) → mat (gdA Γ) ad σ h V → mFr ad h σ0 σ → G Γ σ 0 0 43 [some (.ref h), none] [] := by
          intro V σ hV hm hF
          subst hV
          refine z_al_2_0 (pc := 43) cx dX7_tickOnce_43 ?_
          refine m_callV (pc := 44) cx lk_X7_177 (c_X7_flyAll hm hB) hm hF rfl gy_X7_flyAll ⟨⟨by decide, by decide⟩, by decide, by decide⟩ ⟨rfl, rfl⟩ rfl rfl (Nat.le_of_ble_eq_true rfl) dX7_tickOnce_44 ?_
          intro σ hm hF
          show G Γ _ _ _ 47 _ _
          refine z_iconst (pc := 47) cx dX7_tickOnce_47 ?_
          refine z_is_2_1 (pc := 48) cx dX7_tickOnce_48 ?_
          have J49 : ∀ (n w : Nat) (σ : hS), w + n = 6 → mat (gdA Γ) ad σ h (itN w svF (flyF (tckB (tckA S)))) → mFr ad h σ0 σ → G Γ σ 0 0 49 [some (.ref h), some (.int (iI ((w : Int))))] [] := by
            intro n
            induction n using Nat.strongRecOn with
            | _ n ih =>
            intro w σ hwn hm hF
            refine z_il_2_1 (pc := 49) cx dX7_tickOnce_49 ?_
            refine z_bipush (pc := 50) cx rfl dX7_tickOnce_50 ?_
            refine z_icmp_ge (pc := 52) (tgt := 66) cx (by omega) (by decide) dX7_tickOnce_52 (fun c_52 => ?_) (fun c_52 => ?_)
            · obtain rfl : w = 6 := by omega
              refine z_al_2_0 (pc := 66) cx dX7_tickOnce_66 ?_
              refine g_dup (pc := 67) cx rfl dX7_tickOnce_67 ?_
              refine m_get (pc := 68) cx hm fl_X7_141 rfl dX7_tickOnce_68 ?_
              refine z_iconst (pc := 71) cx dX7_tickOnce_71 ?_
              refine z_iadd (pc := 72) cx dX7_tickOnce_72 ?_
              refine m_put (pc := 73) cx hm hF fl_X7_141 ⟨rfl, rfl, by decide, rfl⟩ (mFs_15 _ _ _) dX7_tickOnce_73 ?_
              intro σ hm hF
              exact g_return (pc := 76) cx rx (by decide) (by decide) dX7_tickOnce_76 ⟨rfl, hm, hF⟩
            · skip
              have hc := hC w (by omega)
              refine z_al_2_0 (pc := 55) cx dX7_tickOnce_55 ?_
              refine z_il_2_1 (pc := 56) cx dX7_tickOnce_56 ?_
              refine m_callV (pc := 57) cx lk_X7_180 (c_X7_serve hm (w := w) (by omega) hc.1 hc.2.1 hc.2.2) hm hF rfl gy_X7_serve ⟨⟨by decide, by decide⟩, by decide, by decide⟩ ⟨rfl, rfl⟩ rfl rfl (Nat.le_of_ble_eq_true rfl) dX7_tickOnce_57 ?_
              intro σ hm hF
              show G Γ _ _ _ 60 _ _
              refine z_ii_2_1 (pc := 60) cx dX7_tickOnce_60 ?_
              refine g_goto (pc := 63) (tgt := 49) cx (by decide) dX7_tickOnce_63 ?_
              exact ih (n - 1) (by omega) (w + 1) σ (by omega) hm hF
          exact J49 6 0 σ rfl hm hF
        exact J30 _ _ (by rw [tckA, decide_eq_true c_6, decide_eq_true c_16, bz_n0.mp c_23]; rfl) hm hF

set_option maxRecDepth 100000 in
set_option maxHeartbeats 4000000 in
theorem c_X7_tick {lc : Launch} {dA : Nat → ClassId} {ad : Nat → Nat} {σ0 : hS} {h : Nat} {S : mS} (hm : mat dA ad σ0 h S) {n : Int} (hn : -2147483648 ≤ n ∧ n ≤ 2147483647) (hk : thT n = 0 → ∀ k : Nat, k < n.toNat → TK (itN k (fun T _ => tckF T) (mw S 0 0 (thT n)))) : gM lc dA yX7_tick (.code yX7_tick cX7_tick 3 (some .int)) { frames := 5, cells := 0, slots := 0, locals := 118 } σ0 [.ref h, .int (iI n)] (mP dA ad h σ0 (some (.int (iI (tickR S n)))) (tickS S n)) nX := by
  refine gM_body (by decide +kernel) (by simp [Value.category]) (Nat.le_of_ble_eq_true rfl) (fun Γ hdA cx rx nx => ?_)
  subst hdA
  have cx : CX lc Γ cX7_tick RX7 3 { frames := 5, cells := 0, slots := 0, locals := 118 } := cx
  show G Γ σ0 0 0 0 [some (.ref h), some (.int (iI n)), none] []
  have hF : mFr ad h σ0 σ0 := mFr.rf
  have J18 : ∀ (e : Int) (σ : hS), e = thT n → mat (gdA Γ) ad σ h S → mFr ad h σ0 σ → G Γ σ 0 0 18 [some (.ref h), some (.int (iI (n))), none] [.int (iI e), .ref h] := by
    intro e σ he hm hF
    have her : 0 ≤ e ∧ e ≤ 3 := by rw [he]; unfold thT; (repeat' split) <;> omega
    refine m_put (pc := 18) cx hm hF fl_X7_89 ⟨rfl, rfl, by decide, rfl⟩ (mFs_0 _ _ _) dX7_tick_18 ?_
    intro σ hm hF
    refine z_al_3_0 (pc := 21) cx dX7_tick_21 ?_
    refine m_get (pc := 22) cx hm fl_X7_89 rfl dX7_tick_22 ?_
    refine z_if_le (pc := 25) (tgt := 30) cx (by rw [mw_s]; omega) (by decide) dX7_tick_25 (fun c_25 => ?_) (fun c_25 => ?_)
    · skip
      rw [mw_s] at c_25
      have he0 : thT n = 0 := by omega
      have hnn : 1 ≤ n ∧ n ≤ 200 := by unfold thT at he0; split at he0 <;> omega
      refine z_iconst (pc := 30) cx dX7_tick_30 ?_
      refine z_is_3_2 (pc := 31) cx dX7_tick_31 ?_
      have J32 : ∀ (m k : Nat) (σ : hS), k + m = n.toNat → mat (gdA Γ) ad σ h (itN k (fun T _ => tckF T) (mw S 0 0 (thT n))) → mFr ad h σ0 σ → G Γ σ 0 0 32 [some (.ref h), some (.int (iI (n))), some (.int (iI ((k : Int))))] [] := by
        intro m
        induction m using Nat.strongRecOn with
        | _ m ih =>
        intro k σ hkm hm hF
        refine z_il_3_2 (pc := 32) cx dX7_tick_32 ?_
        refine z_il_3_1 (pc := 33) cx dX7_tick_33 ?_
        refine z_icmp_ge (pc := 34) (tgt := 47) cx (by omega) (by decide) dX7_tick_34 (fun c_34 => ?_) (fun c_34 => ?_)
        · obtain rfl : k = n.toNat := by omega
          refine z_al_3_0 (pc := 47) cx dX7_tick_47 ?_
          refine m_get (pc := 48) cx hm fl_X7_141 rfl dX7_tick_48 ?_
          exact z_ret (pc := 51) cx rx (by decide) (by decide) dX7_tick_51 ⟨by rw [tickR, if_pos he0, tickS, if_pos he0], by rw [tickS, if_pos he0]; exact hm, hF⟩
        · skip
          refine z_al_3_0 (pc := 37) cx dX7_tick_37 ?_
          refine m_callV (pc := 38) cx lk_X7_183 (c_X7_tickOnce hm (hk he0 k (by omega))) hm hF rfl gy_X7_tickOnce ⟨⟨by decide, by decide⟩, by decide, by decide⟩ ⟨rfl, rfl⟩ rfl rfl (Nat.le_of_ble_eq_true rfl) dX7_tick_38 ?_
          intro σ hm hF
          show G Γ _ _ _ 41 _ _
          refine z_ii_3_2 (pc := 41) cx dX7_tick_41 ?_
          refine g_goto (pc := 44) (tgt := 32) cx (by decide) dX7_tick_44 ?_
          exact ih (m - 1) (by omega) (k + 1) σ (by omega) hm hF
      exact J32 n.toNat 0 σ (by omega) (by rw [← he]; exact hm) hF
    · skip
      refine z_iconst (pc := 28) cx dX7_tick_28 ?_
      rw [mw_s] at c_25
      exact z_ret (pc := 29) cx rx (by decide) (by decide) dX7_tick_29 ⟨by rw [tickR, if_neg (by omega)], by rw [tickS, if_neg (by omega), ← he]; exact hm, hF⟩
  refine z_al_3_0 (pc := 0) cx dX7_tick_0 ?_
  refine z_il_3_1 (pc := 1) cx dX7_tick_1 ?_
  refine z_iconst (pc := 2) cx dX7_tick_2 ?_
  refine z_icmp_lt (pc := 3) (tgt := 13) cx (by omega) (by decide) dX7_tick_3 (fun c_3 => ?_) (fun c_3 => ?_)
  · skip
    refine z_iconst (pc := 13) cx dX7_tick_13 ?_
    refine g_goto (pc := 14) (tgt := 18) cx (by decide) dX7_tick_14 ?_
    exact J18 _ _ (by unfold thT; (repeat' split) <;> omega) hm hF
  · skip
    refine z_il_3_1 (pc := 6) cx dX7_tick_6 ?_
    refine z_sipush (pc := 7) cx rfl dX7_tick_7 ?_
    refine z_icmp_le (pc := 10) (tgt := 17) cx (by omega) (by decide) dX7_tick_10 (fun c_10 => ?_) (fun c_10 => ?_)
    · skip
      refine z_iconst (pc := 17) cx dX7_tick_17 ?_
      exact J18 _ _ (by unfold thT; (repeat' split) <;> omega) hm hF
    · skip
      refine z_iconst (pc := 13) cx dX7_tick_13 ?_
      refine g_goto (pc := 14) (tgt := 18) cx (by decide) dX7_tick_14 ?_
      exact J18 _ _ (by unfold thT; (repeat' split) <;> omega) hm hF
