/-! contracts (walks laid by program) -/
set_option maxRecDepth 100000 in
set_option maxHeartbeats 4000000 in
theorem c_X7_isOnTime {lc : Launch} {dA : Nat → ClassId} {ad : Nat → Nat} {σ0 : hS} {h : Nat} {S : mS} (hm : mat dA ad σ0 h S) {i : Int} (hi : 0 ≤ i ∧ i < 5) (hs : mSt S i) (hd : mDl S) : gM lc dA yX7_isOnTime (.code yX7_isOnTime cX7_isOnTime 3 (some .boolean)) { frames := 1, cells := 0, slots := 0, locals := 24 } σ0 [.ref h, .int (iI i)] (mP dA ad h σ0 (some (.int (iI (bz (onTF S i))))) (S)) nX := by
  refine gM_body (by decide +kernel) (by simp [Value.category]) (Nat.le_of_ble_eq_true rfl) (fun Γ hdA cx rx nx => ?_)
  subst hdA
  have cx : CX lc Γ cX7_isOnTime RX7 3 { frames := 1, cells := 0, slots := 0, locals := 24 } := cx
  show G Γ σ0 0 0 0 [some (.ref h), some (.int (iI i)), none] []
  have hF : mFr ad h σ0 σ0 := mFr.rf
  have hs' := hs
  obtain ⟨-, h4, h5, g0, g1, g2, g3⟩ := hs'
  have e0 : S 6 (3 * i + (((0 : Nat)) : Int)) = S 6 (3 * i) := by congr 1; exact Int.add_zero _
  have J35 : ∀ (k : Nat) (σ : hS), k = lastF S i → mat (gdA Γ) ad σ h S → mFr ad h σ0 σ → G Γ σ 0 0 35 [some (.ref h), some (.int (iI i)), none] [.int (iI (k : Int))] := by
    intro k σ hk hm hF
    have hk2 : k ≤ 2 := by rw [hk]; unfold lastF; split <;> (try split) <;> omega
    have hp := fun q (hq : q ≤ k) => mSt_path hs (show q ≤ lastF S i by omega)
    have hpk := hp k (Nat.le_refl _)
    have hbr := begF_r (i := i) hd h4 k (fun q hq => hp q (by omega))
    have hdk := hd _ hpk.1 hpk.2
    refine z_is_3_2 (pc := 35) cx dX7_isOnTime_35 ?_
    refine z_al_3_0 (pc := 36) cx dX7_isOnTime_36 ?_
    refine z_il_3_1 (pc := 37) cx dX7_isOnTime_37 ?_
    refine z_il_3_2 (pc := 38) cx dX7_isOnTime_38 ?_
    refine m_callV (pc := 39) cx lk_X7_100 (c_X7_begins hm (j := k) hi (by omega) (fun q hq => hp q (by omega))) hm hF rfl gy_X7_begins ⟨⟨by decide, by decide⟩, by decide, by decide⟩ ⟨rfl, rfl⟩ rfl rfl (Nat.le_of_ble_eq_true rfl) dX7_isOnTime_39 ?_
    intro σ hm hF
    show G Γ _ _ _ 42 _ (.int (iI _) :: _)
    refine z_al_3_0 (pc := 42) cx dX7_isOnTime_42 ?_
    refine m_get (pc := 43) cx hm fl_X7_16 rfl dX7_isOnTime_43 ?_
    refine z_il_3_1 (pc := 46) cx dX7_isOnTime_46 ?_
    refine m_iald (pc := 47) (k := 4) (L := 5) cx hm ⟨rfl, rfl, by decide, by decide⟩ dX7_isOnTime_47 (by omega) ?_
    refine z_iadd (pc := 48) cx dX7_isOnTime_48 ?_
    refine z_al_3_0 (pc := 49) cx dX7_isOnTime_49 ?_
    refine m_get (pc := 50) cx hm fl_X7_7 rfl dX7_isOnTime_50 ?_
    refine z_al_3_0 (pc := 53) cx dX7_isOnTime_53 ?_
    refine m_get (pc := 54) cx hm fl_X7_22 rfl dX7_isOnTime_54 ?_
    refine z_iconst (pc := 57) cx dX7_isOnTime_57 ?_
    refine z_il_3_1 (pc := 58) cx dX7_isOnTime_58 ?_
    refine z_imul (pc := 59) cx dX7_isOnTime_59 ?_
    refine z_il_3_2 (pc := 60) cx dX7_isOnTime_60 ?_
    refine z_iadd (pc := 61) cx dX7_isOnTime_61 ?_
    refine m_iald (pc := 62) (k := 6) (L := 15) cx hm ⟨rfl, rfl, by decide, by decide⟩ dX7_isOnTime_62 (by omega) ?_
    refine m_iald (pc := 63) (k := 1) (L := 6) cx hm ⟨rfl, rfl, by decide, by decide⟩ dX7_isOnTime_63 (by omega) ?_
    refine z_iadd (pc := 64) cx dX7_isOnTime_64 ?_
    refine z_al_3_0 (pc := 65) cx dX7_isOnTime_65 ?_
    refine m_get (pc := 66) cx hm fl_X7_19 rfl dX7_isOnTime_66 ?_
    refine z_il_3_1 (pc := 69) cx dX7_isOnTime_69 ?_
    refine m_iald (pc := 70) (k := 5) (L := 5) cx hm ⟨rfl, rfl, by decide, by decide⟩ dX7_isOnTime_70 (by omega) ?_
    refine z_icmp_gt (pc := 71) (tgt := 78) cx (by omega) (by decide) dX7_isOnTime_71 (fun c_71 => ?_) (fun c_71 => ?_)
    · skip
      refine z_iconst (pc := 78) cx dX7_isOnTime_78 ?_
      exact (z_retb (pc := 79) (b := onTF S i) cx rx (by decide) (by decide) dX7_isOnTime_79 (by unfold onTF; rw [← hk]; simp only [bz, decide_eq_true_eq]; split <;> omega) ⟨rfl, hm, hF⟩)
    · skip
      refine z_iconst (pc := 74) cx dX7_isOnTime_74 ?_
      refine g_goto (pc := 75) (tgt := 79) cx (by decide) dX7_isOnTime_75 ?_
      exact (z_retb (pc := 79) (b := onTF S i) cx rx (by decide) (by decide) dX7_isOnTime_79 (by unfold onTF; rw [← hk]; simp only [bz, decide_eq_true_eq]; split <;> omega) ⟨rfl, hm, hF⟩)
  refine z_al_3_0 (pc := 0) cx dX7_isOnTime_0 ?_
  refine m_get (pc := 1) cx hm fl_X7_22 rfl dX7_isOnTime_1 ?_
  refine z_iconst (pc := 4) cx dX7_isOnTime_4 ?_
  refine z_il_3_1 (pc := 5) cx dX7_isOnTime_5 ?_
  refine z_imul (pc := 6) cx dX7_isOnTime_6 ?_
  refine z_iconst (pc := 7) cx dX7_isOnTime_7 ?_
  refine z_iadd (pc := 8) cx dX7_isOnTime_8 ?_
  refine m_iald (pc := 9) (k := 6) (L := 15) cx hm ⟨rfl, rfl, by decide, by decide⟩ dX7_isOnTime_9 (by omega) ?_
  refine z_if_lt (pc := 10) (tgt := 17) cx (by omega) (by decide) dX7_isOnTime_10 (fun c_10 => ?_) (fun c_10 => ?_)
  · skip
    refine z_al_3_0 (pc := 17) cx dX7_isOnTime_17 ?_
    refine m_get (pc := 18) cx hm fl_X7_22 rfl dX7_isOnTime_18 ?_
    refine z_iconst (pc := 21) cx dX7_isOnTime_21 ?_
    refine z_il_3_1 (pc := 22) cx dX7_isOnTime_22 ?_
    refine z_imul (pc := 23) cx dX7_isOnTime_23 ?_
    refine z_iconst (pc := 24) cx dX7_isOnTime_24 ?_
    refine z_iadd (pc := 25) cx dX7_isOnTime_25 ?_
    refine m_iald (pc := 26) (k := 6) (L := 15) cx hm ⟨rfl, rfl, by decide, by decide⟩ dX7_isOnTime_26 (by omega) ?_
    refine z_if_lt (pc := 27) (tgt := 34) cx (by omega) (by decide) dX7_isOnTime_27 (fun c_27 => ?_) (fun c_27 => ?_)
    · skip
      refine z_iconst (pc := 34) cx dX7_isOnTime_34 ?_
      exact J35 0 σ0 (by unfold lastF; rw [if_neg (by omega), if_neg (by omega)]) hm hF
    · skip
      refine z_iconst (pc := 30) cx dX7_isOnTime_30 ?_
      refine g_goto (pc := 31) (tgt := 35) cx (by decide) dX7_isOnTime_31 ?_
      exact J35 1 σ0 (by unfold lastF; rw [if_neg (by omega), if_pos (by omega)]) hm hF
  · skip
    refine z_iconst (pc := 13) cx dX7_isOnTime_13 ?_
    refine g_goto (pc := 14) (tgt := 35) cx (by decide) dX7_isOnTime_14 ?_
    exact J35 2 σ0 (by unfold lastF; rw [if_pos (by omega)]) hm hF

set_option maxRecDepth 100000 in
set_option maxHeartbeats 4000000 in
theorem c_X7_streamsMeet {lc : Launch} {dA : Nat → ClassId} {ad : Nat → Nat} {σ0 : hS} {h : Nat} {S : mS} (hm : mat dA ad σ0 h S) {i j : Int} (hi : 0 ≤ i ∧ i < 5) (hj : 0 ≤ j ∧ j < 5) (hsi : mSt S i) (hsj : mSt S j) (hd : mDl S) (ht : (-1 ≤ S 14 i ∧ S 14 i ≤ 32) ∧ (-1 ≤ S 14 j ∧ S 14 j ≤ 32)) : gM lc dA yX7_streamsMeet (.code yX7_streamsMeet cX7_streamsMeet 7 (some .boolean)) { frames := 2, cells := 0, slots := 0, locals := 48 } σ0 [.ref h, .int (iI i), .int (iI j)] (mP dA ad h σ0 (some (.int (iI (bz (smF S i j))))) (S)) nX := by
  refine gM_body (by decide +kernel) (by simp [Value.category]) (Nat.le_of_ble_eq_true rfl) (fun Γ hdA cx rx nx => ?_)
  subst hdA
  have cx : CX lc Γ cX7_streamsMeet RX7 7 { frames := 2, cells := 0, slots := 0, locals := 48 } := cx
  show G Γ σ0 0 0 0 [some (.ref h), some (.int (iI i)), some (.int (iI j)), none, none, none, none] []
  have hF : mFr ad h σ0 σ0 := mFr.rf
  obtain ⟨i3, i4, i5, i60, i61, i62, i63⟩ := id hsi
  obtain ⟨j3, j4, j5, j60, j61, j62, j63⟩ := id hsj
  have pi : ∀ x : Nat, x < 3 → -1 ≤ S 6 (3 * i + (x : Int)) ∧ S 6 (3 * i + (x : Int)) < 6 := fun x hx => by
    match x, hx with
    | 0, _ => simpa using (show -1 ≤ S 6 (3 * i) ∧ S 6 (3 * i) < 6 by omega)
    | 1, _ => exact i61
    | 2, _ => exact i62
  have pj : ∀ x : Nat, x < 3 → -1 ≤ S 6 (3 * j + (x : Int)) ∧ S 6 (3 * j + (x : Int)) < 6 := fun x hx => by
    match x, hx with
    | 0, _ => simpa using (show -1 ≤ S 6 (3 * j) ∧ S 6 (3 * j) < 6 by omega)
    | 1, _ => exact j61
    | 2, _ => exact j62
  refine z_iconst (pc := 0) cx dX7_streamsMeet_0 ?_
  refine z_is_7_3 (pc := 1) cx dX7_streamsMeet_1 ?_
  refine z_iconst (pc := 2) cx dX7_streamsMeet_2 ?_
  refine z_is_7_4 (pc := 3) cx dX7_streamsMeet_3 ?_
  have J5 : ∀ (n x : Nat) (x5 x6 : Option Value) (σ : hS), x + n = 3 → mat (gdA Γ) ad σ h S → mFr ad h σ0 σ → G Γ σ 0 0 5 [some (.ref h), some (.int (iI (i))), some (.int (iI (j))), some (.int (iI (bz (anyN x fun x => anyN 3 fun y => smXY S i j x y)))), some (.int (iI ((x : Int)))), x5, x6] [] := by
    intro n
    induction n using Nat.strongRecOn with
    | _ n ih =>
    intro x x5 x6 σ hn hm hF
    refine z_il_7_4 (pc := 5) cx dX7_streamsMeet_5 ?_
    refine z_iconst (pc := 7) cx dX7_streamsMeet_7 ?_
    refine z_icmp_ge (pc := 8) (tgt := 138) cx (by omega) (by decide) dX7_streamsMeet_8 (fun c_8 => ?_) (fun c_8 => ?_)
    · obtain rfl : x = 3 := by omega
      refine z_il_7_3 (pc := 138) cx dX7_streamsMeet_138 ?_
      exact (z_retb (pc := 139) (b := smF S i j) cx rx (by decide) (by decide) dX7_streamsMeet_139 rfl ⟨rfl, hm, hF⟩)
    · skip
      refine z_iconst (pc := 11) cx dX7_streamsMeet_11 ?_
      refine z_is_7_5 (pc := 12) cx dX7_streamsMeet_12 ?_
      have J14 : ∀ (n2 y : Nat) (x6 : Option Value) (σ : hS), y + n2 = 3 → mat (gdA Γ) ad σ h S → mFr ad h σ0 σ → G Γ σ 0 0 14 [some (.ref h), some (.int (iI (i))), some (.int (iI (j))), some (.int (iI (bz (anyN x (fun x => anyN 3 fun y => smXY S i j x y) || anyN y fun y => smXY S i j x y)))), some (.int (iI ((x : Int)))), some (.int (iI ((y : Int)))), x6] [] := by
        intro n2
        induction n2 using Nat.strongRecOn with
        | _ n2 ih2 =>
        intro y x6 σ hn2 hm hF
        have hx3 : x < 3 := by omega
        have hpx := pi x hx3
        refine z_il_7_5 (pc := 14) cx dX7_streamsMeet_14 ?_
        refine z_iconst (pc := 16) cx dX7_streamsMeet_16 ?_
        refine z_icmp_ge (pc := 17) (tgt := 132) cx (by omega) (by decide) dX7_streamsMeet_17 (fun c_17 => ?_) (fun c_17 => ?_)
        · obtain rfl : y = 3 := by omega
          refine z_ii_7_4 (pc := 132) cx dX7_streamsMeet_132 ?_
          refine g_goto (pc := 135) (tgt := 5) cx (by decide) dX7_streamsMeet_135 ?_
          exact ih (n - 1) (by omega) (x + 1) _ _ σ (by omega) hm hF
        · skip
          have J126 : ∀ (e : Int) (x6 : Option Value) (σ : hS), e = bz (anyN x (fun x => anyN 3 fun y => smXY S i j x y) || anyN (y + 1) fun y => smXY S i j x y) → mat (gdA Γ) ad σ h S → mFr ad h σ0 σ → G Γ σ 0 0 126 [some (.ref h), some (.int (iI (i))), some (.int (iI (j))), some (.int (iI (e))), some (.int (iI ((x : Int)))), some (.int (iI ((y : Int)))), x6] [] := by
            intro e x6 σ he hm hF
            subst he
            refine z_ii_7_5 (pc := 126) cx dX7_streamsMeet_126 ?_
            refine g_goto (pc := 129) (tgt := 14) cx (by decide) dX7_streamsMeet_129 ?_
            exact ih2 (n2 - 1) (by omega) (y + 1) _ σ (by omega) hm hF
          have hy3 : y < 3 := by omega
          have hpy := pj y hy3
          refine z_al_7_0 (pc := 20) cx dX7_streamsMeet_20 ?_
          refine m_get (pc := 21) cx hm fl_X7_22 rfl dX7_streamsMeet_21 ?_
          refine z_iconst (pc := 24) cx dX7_streamsMeet_24 ?_
          refine z_il_7_1 (pc := 25) cx dX7_streamsMeet_25 ?_
          refine z_imul (pc := 26) cx dX7_streamsMeet_26 ?_
          refine z_il_7_4 (pc := 27) cx dX7_streamsMeet_27 ?_
          refine z_iadd (pc := 29) cx dX7_streamsMeet_29 ?_
          refine m_iald (pc := 30) (k := 6) (L := 15) cx hm ⟨rfl, rfl, by decide, by decide⟩ dX7_streamsMeet_30 (by omega) ?_
          refine z_is_7_6 (pc := 31) cx dX7_streamsMeet_31 ?_
          refine z_il_7_6 (pc := 33) cx dX7_streamsMeet_33 ?_
          refine z_if_lt (pc := 35) (tgt := 126) cx (by omega) (by decide) dX7_streamsMeet_35 (fun c_35 => ?_) (fun c_35 => ?_)
          · skip
            exact J126 _ _ σ (by rw [anyN, smXY, decide_eq_false (show ¬ 0 ≤ S 6 (3 * i + (x : Int)) by omega)]; simp) hm hF
          · skip
            refine z_il_7_6 (pc := 38) cx dX7_streamsMeet_38 ?_
            refine z_al_7_0 (pc := 40) cx dX7_streamsMeet_40 ?_
            refine m_get (pc := 41) cx hm fl_X7_22 rfl dX7_streamsMeet_41 ?_
            refine z_iconst (pc := 44) cx dX7_streamsMeet_44 ?_
            refine z_il_7_2 (pc := 45) cx dX7_streamsMeet_45 ?_
            refine z_imul (pc := 46) cx dX7_streamsMeet_46 ?_
            refine z_il_7_5 (pc := 47) cx dX7_streamsMeet_47 ?_
            refine z_iadd (pc := 49) cx dX7_streamsMeet_49 ?_
            refine m_iald (pc := 50) (k := 6) (L := 15) cx hm ⟨rfl, rfl, by decide, by decide⟩ dX7_streamsMeet_50 (by omega) ?_
            refine z_icmp_ne (pc := 51) (tgt := 126) cx (by omega) (by decide) dX7_streamsMeet_51 (fun c_51 => ?_) (fun c_51 => ?_)
            · skip
              exact J126 _ _ σ (by rw [anyN, smXY, decide_eq_false c_51]; simp) hm hF
            · skip
              refine z_il_7_3 (pc := 54) cx dX7_streamsMeet_54 ?_
              refine z_if_ne (pc := 55) (tgt := 120) cx (by have := bz_r (anyN x (fun x => anyN 3 fun y => smXY S i j x y) || anyN y fun y => smXY S i j x y); omega) (by decide) dX7_streamsMeet_55 (fun c_55 => ?_) (fun c_55 => ?_)
              · skip
                refine z_iconst (pc := 120) cx dX7_streamsMeet_120 ?_
                refine g_goto (pc := 121) (tgt := 125) cx (by decide) dX7_streamsMeet_121 ?_
                refine z_is_7_3 (pc := 125) cx dX7_streamsMeet_125 ?_
                exact J126 _ _ σ (by
                  rw [anyN, ← Bool.or_assoc]
                  first
                  | (rw [bz_n0.mp c_55]; rfl)
                  | (rw [bz_0.mp c_55, smXY, decide_eq_true c_35, decide_eq_true c_51, bz_n0.mp c_117]; rfl)
                  | (rw [bz_0.mp c_55, smXY, decide_eq_true c_35, decide_eq_true c_51, bz_0.mp c_117]; rfl)) hm hF
              · skip
                have qi := mSt_pre hsi hx3 c_35
                have qj := mSt_pre hsj hy3 (show 0 ≤ S 6 (3 * j + (y : Int)) by omega)
                have bi := begF_r (i := i) hd i4 x qi
                have bj := begF_r (i := j) hd j4 y qj
                refine z_al_7_0 (pc := 58) cx dX7_streamsMeet_58 ?_
                refine m_get (pc := 59) cx hm fl_X7_43 rfl dX7_streamsMeet_59 ?_
                refine z_il_7_1 (pc := 62) cx dX7_streamsMeet_62 ?_
                refine m_iald (pc := 63) (k := 14) (L := 5) cx hm ⟨rfl, rfl, by decide, by decide⟩ dX7_streamsMeet_63 (by omega) ?_
                refine z_al_7_0 (pc := 64) cx dX7_streamsMeet_64 ?_
                refine z_il_7_1 (pc := 65) cx dX7_streamsMeet_65 ?_
                refine z_il_7_4 (pc := 66) cx dX7_streamsMeet_66 ?_
                refine m_callV (pc := 68) cx lk_X7_100 (c_X7_begins hm (j := x) hi (by omega) qi) hm hF rfl gy_X7_begins ⟨⟨by decide, by decide⟩, by decide, by decide⟩ ⟨rfl, rfl⟩ rfl rfl (Nat.le_of_ble_eq_true rfl) dX7_streamsMeet_68 ?_
                intro σ hm hF
                show G Γ _ _ _ 71 _ (.int (iI _) :: _)
                refine z_iadd (pc := 71) cx dX7_streamsMeet_71 ?_
                refine z_al_7_0 (pc := 72) cx dX7_streamsMeet_72 ?_
                refine m_get (pc := 73) cx hm fl_X7_16 rfl dX7_streamsMeet_73 ?_
                refine z_il_7_1 (pc := 76) cx dX7_streamsMeet_76 ?_
                refine m_iald (pc := 77) (k := 4) (L := 5) cx hm ⟨rfl, rfl, by decide, by decide⟩ dX7_streamsMeet_77 (by omega) ?_
                refine z_iconst (pc := 78) cx dX7_streamsMeet_78 ?_
                refine z_iadd (pc := 79) cx dX7_streamsMeet_79 ?_
                refine z_al_7_0 (pc := 80) cx dX7_streamsMeet_80 ?_
                refine m_get (pc := 81) cx hm fl_X7_13 rfl dX7_streamsMeet_81 ?_
                refine z_il_7_1 (pc := 84) cx dX7_streamsMeet_84 ?_
                refine m_iald (pc := 85) (k := 3) (L := 5) cx hm ⟨rfl, rfl, by decide, by decide⟩ dX7_streamsMeet_85 (by omega) ?_
                refine z_al_7_0 (pc := 86) cx dX7_streamsMeet_86 ?_
                refine m_get (pc := 87) cx hm fl_X7_43 rfl dX7_streamsMeet_87 ?_
                refine z_il_7_2 (pc := 90) cx dX7_streamsMeet_90 ?_
                refine m_iald (pc := 91) (k := 14) (L := 5) cx hm ⟨rfl, rfl, by decide, by decide⟩ dX7_streamsMeet_91 (by omega) ?_
                refine z_al_7_0 (pc := 92) cx dX7_streamsMeet_92 ?_
                refine z_il_7_2 (pc := 93) cx dX7_streamsMeet_93 ?_
                refine z_il_7_5 (pc := 94) cx dX7_streamsMeet_94 ?_
                refine m_callV (pc := 96) cx lk_X7_100 (c_X7_begins hm (j := y) hj (by omega) qj) hm hF rfl gy_X7_begins ⟨⟨by decide, by decide⟩, by decide, by decide⟩ ⟨rfl, rfl⟩ rfl rfl (Nat.le_of_ble_eq_true rfl) dX7_streamsMeet_96 ?_
                intro σ hm hF
                show G Γ _ _ _ 99 _ (.int (iI _) :: _)
                refine z_iadd (pc := 99) cx dX7_streamsMeet_99 ?_
                refine z_al_7_0 (pc := 100) cx dX7_streamsMeet_100 ?_
                refine m_get (pc := 101) cx hm fl_X7_16 rfl dX7_streamsMeet_101 ?_
                refine z_il_7_2 (pc := 104) cx dX7_streamsMeet_104 ?_
                refine m_iald (pc := 105) (k := 4) (L := 5) cx hm ⟨rfl, rfl, by decide, by decide⟩ dX7_streamsMeet_105 (by omega) ?_
                refine z_iconst (pc := 106) cx dX7_streamsMeet_106 ?_
                refine z_iadd (pc := 107) cx dX7_streamsMeet_107 ?_
                refine z_al_7_0 (pc := 108) cx dX7_streamsMeet_108 ?_
                refine m_get (pc := 109) cx hm fl_X7_13 rfl dX7_streamsMeet_109 ?_
                refine z_il_7_2 (pc := 112) cx dX7_streamsMeet_112 ?_
                refine m_iald (pc := 113) (k := 3) (L := 5) cx hm ⟨rfl, rfl, by decide, by decide⟩ dX7_streamsMeet_113 (by omega) ?_
                refine m_callS (pc := 114) cx lk_X7_107 (c_X7_meet (by omega)) gy_X7_meet ⟨⟨by decide, by decide⟩, by decide, by decide⟩ ⟨rfl, rfl⟩ rfl rfl (Nat.le_of_ble_eq_true rfl) dX7_streamsMeet_114 ?_
                show G Γ _ _ _ 117 _ (.int (iI _) :: _)
                refine z_if_eq (pc := 117) (tgt := 124) cx (by have := bz_r (meetF (S 14 i + begF S i x) (S 4 i + 1) (S 3 i) (S 14 j + begF S j y) (S 4 j + 1) (S 3 j)); omega) (by decide) dX7_streamsMeet_117 (fun c_117 => ?_) (fun c_117 => ?_)
                · skip
                  refine z_iconst (pc := 124) cx dX7_streamsMeet_124 ?_
                  refine z_is_7_3 (pc := 125) cx dX7_streamsMeet_125 ?_
                  exact J126 _ _ σ (by
                    rw [anyN, ← Bool.or_assoc]
                    first
                    | (rw [bz_n0.mp c_55]; rfl)
                    | (rw [bz_0.mp c_55, smXY, decide_eq_true c_35, decide_eq_true c_51, bz_n0.mp c_117]; rfl)
                    | (rw [bz_0.mp c_55, smXY, decide_eq_true c_35, decide_eq_true c_51, bz_0.mp c_117]; rfl)) hm hF
                · skip
                  refine z_iconst (pc := 120) cx dX7_streamsMeet_120 ?_
                  refine g_goto (pc := 121) (tgt := 125) cx (by decide) dX7_streamsMeet_121 ?_
                  refine z_is_7_3 (pc := 125) cx dX7_streamsMeet_125 ?_
                  exact J126 _ _ σ (by
                    rw [anyN, ← Bool.or_assoc]
                    first
                    | (rw [bz_n0.mp c_55]; rfl)
                    | (rw [bz_0.mp c_55, smXY, decide_eq_true c_35, decide_eq_true c_51, bz_n0.mp c_117]; rfl)
                    | (rw [bz_0.mp c_55, smXY, decide_eq_true c_35, decide_eq_true c_51, bz_0.mp c_117]; rfl)) hm hF
      refine g_l (J14 3 0 x6 σ rfl hm hF) ?_
      simp [anyN]
  exact J5 3 0 _ _ σ0 rfl hm hF

set_option maxRecDepth 100000 in
set_option maxHeartbeats 4000000 in
theorem c_X7_isGood {lc : Launch} {dA : Nat → ClassId} {ad : Nat → Nat} {σ0 : hS} {h : Nat} {S : mS} (hm : mat dA ad σ0 h S) {i : Nat} (hi : i < 5) (hs : ∀ j : Nat, j ≤ i → mSt S j ∧ -1 ≤ S 14 j ∧ S 14 j ≤ 32) (hd : mDl S) : gM lc dA yX7_isGood (.code yX7_isGood cX7_isGood 4 (some .boolean)) { frames := 3, cells := 0, slots := 0, locals := 74 } σ0 [.ref h, .int (iI (i : Int))] (mP dA ad h σ0 (some (.int (iI (bz (goodF S i))))) (S)) nX := by
  refine gM_body (by decide +kernel) (by simp [Value.category]) (Nat.le_of_ble_eq_true rfl) (fun Γ hdA cx rx nx => ?_)
  subst hdA
  have cx : CX lc Γ cX7_isGood RX7 4 { frames := 3, cells := 0, slots := 0, locals := 74 } := cx
  show G Γ σ0 0 0 0 [some (.ref h), some (.int (iI (i : Int))), none, none] []
  have hF : mFr ad h σ0 σ0 := mFr.rf
  have hsi := hs i (Nat.le_refl _)
  refine z_al_4_0 (pc := 0) cx dX7_isGood_0 ?_
  refine z_il_4_1 (pc := 1) cx dX7_isGood_1 ?_
  refine m_callV (pc := 2) cx lk_X7_111 (c_X7_isOnTime hm (by omega) hsi.1 hd) hm hF rfl gy_X7_isOnTime ⟨⟨by decide, by decide⟩, by decide, by decide⟩ ⟨rfl, rfl⟩ rfl rfl (Nat.le_of_ble_eq_true rfl) dX7_isGood_2 ?_
  intro σ hm hF
  show G Γ _ _ _ 5 _ (.int (iI _) :: _)
  refine z_is_4_2 (pc := 5) cx dX7_isGood_5 ?_
  refine z_iconst (pc := 6) cx dX7_isGood_6 ?_
  refine z_is_4_3 (pc := 7) cx dX7_isGood_7 ?_
  have J8 : ∀ (n j : Nat) (σ : hS), j + n = i → mat (gdA Γ) ad σ h S → mFr ad h σ0 σ → G Γ σ 0 0 8 [some (.ref h), some (.int (iI ((i : Int)))), some (.int (iI (bz (onTF S i && allN j fun j => !smF S i j)))), some (.int (iI ((j : Int))))] [] := by
    intro n
    induction n using Nat.strongRecOn with
    | _ n ih =>
    intro j σ hn hm hF
    refine z_il_4_3 (pc := 8) cx dX7_isGood_8 ?_
    refine z_il_4_1 (pc := 9) cx dX7_isGood_9 ?_
    refine z_icmp_ge (pc := 10) (tgt := 38) cx (by omega) (by decide) dX7_isGood_10 (fun c_10 => ?_) (fun c_10 => ?_)
    · obtain rfl : i = j := by omega
      refine z_il_4_2 (pc := 38) cx dX7_isGood_38 ?_
      exact (z_retb (pc := 39) (b := goodF S i) cx rx (by decide) (by decide) dX7_isGood_39 rfl ⟨rfl, hm, hF⟩)
    · skip
      have J31 : ∀ (e : Int) (σ : hS), e = bz (onTF S i && allN (j + 1) fun j => !smF S i j) → mat (gdA Γ) ad σ h S → mFr ad h σ0 σ → G Γ σ 0 0 31 [some (.ref h), some (.int (iI ((i : Int)))), some (.int (iI (bz (onTF S i && allN j fun j => !smF S i j)))), some (.int (iI ((j : Int))))] [.int (iI e)] := by
        intro e σ he hm hF
        subst he
        refine z_is_4_2 (pc := 31) cx dX7_isGood_31 ?_
        refine z_ii_4_3 (pc := 32) cx dX7_isGood_32 ?_
        refine g_goto (pc := 35) (tgt := 8) cx (by decide) dX7_isGood_35 ?_
        exact ih (n - 1) (by omega) (j + 1) σ (by omega) hm hF
      have hsj := hs j (by omega)
      refine z_il_4_2 (pc := 13) cx dX7_isGood_13 ?_
      refine z_if_eq (pc := 14) (tgt := 30) cx (by have := bz_r (onTF S i && allN j fun j => !smF S i j); omega) (by decide) dX7_isGood_14 (fun c_14 => ?_) (fun c_14 => ?_)
      · skip
        refine z_iconst (pc := 30) cx dX7_isGood_30 ?_
        exact J31 _ σ (by
          rw [allN, ← Bool.and_assoc]
          first
          | (rw [bz_0.mp c_14]; rfl)
          | (rw [bz_n0.mp c_23]; simp [bz])) hm hF
      · skip
        refine z_al_4_0 (pc := 17) cx dX7_isGood_17 ?_
        refine z_il_4_1 (pc := 18) cx dX7_isGood_18 ?_
        refine z_il_4_3 (pc := 19) cx dX7_isGood_19 ?_
        refine m_callV (pc := 20) cx lk_X7_114 (c_X7_streamsMeet hm (by omega) (by omega) hsi.1 hsj.1 hd ⟨hsi.2, hsj.2⟩) hm hF rfl gy_X7_streamsMeet ⟨⟨by decide, by decide⟩, by decide, by decide⟩ ⟨rfl, rfl⟩ rfl rfl (Nat.le_of_ble_eq_true rfl) dX7_isGood_20 ?_
        intro σ hm hF
        show G Γ _ _ _ 23 _ (.int (iI _) :: _)
        refine z_if_ne (pc := 23) (tgt := 30) cx (by have := bz_r (smF S i j); omega) (by decide) dX7_isGood_23 (fun c_23 => ?_) (fun c_23 => ?_)
        · skip
          refine z_iconst (pc := 30) cx dX7_isGood_30 ?_
          exact J31 _ σ (by
            rw [allN, ← Bool.and_assoc]
            first
            | (rw [bz_0.mp c_14]; rfl)
            | (rw [bz_n0.mp c_23]; simp [bz])) hm hF
        · skip
          refine z_iconst (pc := 26) cx dX7_isGood_26 ?_
          refine g_goto (pc := 27) (tgt := 31) cx (by decide) dX7_isGood_27 ?_
          exact J31 _ σ (by rw [allN, ← Bool.and_assoc, bz_n0.mp c_14, bz_0.mp c_23]; rfl) hm hF
  refine g_l (J8 i 0 σ (by omega) hm hF) ?_
  simp [allN]

set_option maxRecDepth 100000 in
set_option maxHeartbeats 4000000 in
theorem c_X7_beginsIn {lc : Launch} {dA : Nat → ClassId} {ad : Nat → Nat} {σ0 : hS} {h : Nat} {S : mS} (hm : mat dA ad σ0 h S) {k i p q : Int} {j : Nat} (hk : 0 ≤ k ∧ k ≤ 2) (hi : 0 ≤ i ∧ i < 5) (hj : j ≤ 3) (hp : p = 5 * k + i) (hq : q = 15 * k + 3 * i) : gM lc dA yX7_beginsIn (.code yX7_beginsIn cX7_beginsIn 6 (some .int)) { frames := 0, cells := 0, slots := 0, locals := 0 } σ0 [.ref h, .int (iI k), .int (iI i), .int (iI (j : Int))] (mP dA ad h σ0 (some (.int (iI (binF S p q j)))) (S)) nX := by
  refine gM_body (by decide +kernel) (by simp [Value.category]) (Nat.le_of_ble_eq_true rfl) (fun Γ hdA cx rx nx => ?_)
  subst hdA
  have cx : CX lc Γ cX7_beginsIn RX7 6 { frames := 0, cells := 0, slots := 0, locals := 0 } := cx
  show G Γ σ0 0 0 0 [some (.ref h), some (.int (iI k)), some (.int (iI i)), some (.int (iI (j : Int))), none, none] []
  have hF : mFr ad h σ0 σ0 := mFr.rf
  subst hp
  subst hq
  refine z_iconst (pc := 0) cx dX7_beginsIn_0 ?_
  refine z_is_6_4 (pc := 1) cx dX7_beginsIn_1 ?_
  refine z_iconst (pc := 3) cx dX7_beginsIn_3 ?_
  refine z_is_6_5 (pc := 4) cx dX7_beginsIn_4 ?_
  have J6 : ∀ (n x : Nat) (σ : hS), x + n = j → mat (gdA Γ) ad σ h S → mFr ad h σ0 σ → G Γ σ 0 0 6 [some (.ref h), some (.int (iI (k))), some (.int (iI (i))), some (.int (iI ((j : Int)))), some (.int (iI (binF S (5 * k + i) (15 * k + 3 * i) x))), some (.int (iI ((x : Int))))] [] := by
    intro n
    induction n using Nat.strongRecOn with
    | _ n ih =>
    intro x σ hn hm hF
    refine z_il_6_5 (pc := 6) cx dX7_beginsIn_6 ?_
    refine z_il_6_3 (pc := 8) cx dX7_beginsIn_8 ?_
    refine z_icmp_ge (pc := 9) (tgt := 52) cx (by omega) (by decide) dX7_beginsIn_9 (fun c_9 => ?_) (fun c_9 => ?_)
    · obtain rfl : x = j := by omega
      refine z_il_6_4 (pc := 52) cx dX7_beginsIn_52 ?_
      exact z_ret (pc := 54) cx rx (by decide) (by decide) dX7_beginsIn_54 ⟨rfl, hm, hF⟩
    · skip
      refine z_il_6_4 (pc := 12) cx dX7_beginsIn_12 ?_
      refine z_al_6_0 (pc := 14) cx dX7_beginsIn_14 ?_
      refine m_get (pc := 15) cx hm fl_X7_31 rfl dX7_beginsIn_15 ?_
      refine z_iconst (pc := 18) cx dX7_beginsIn_18 ?_
      refine z_il_6_1 (pc := 19) cx dX7_beginsIn_19 ?_
      refine z_imul (pc := 20) cx dX7_beginsIn_20 ?_
      refine z_il_6_2 (pc := 21) cx dX7_beginsIn_21 ?_
      refine z_iadd (pc := 22) cx dX7_beginsIn_22 ?_
      refine m_iald (pc := 23) (k := 9) (L := 15) cx hm ⟨rfl, rfl, by decide, by decide⟩ dX7_beginsIn_23 (by omega) ?_
      refine z_iadd (pc := 24) cx dX7_beginsIn_24 ?_
      refine z_al_6_0 (pc := 25) cx dX7_beginsIn_25 ?_
      refine m_get (pc := 26) cx hm fl_X7_40 rfl dX7_beginsIn_26 ?_
      refine z_bipush (pc := 29) cx rfl dX7_beginsIn_29 ?_
      refine z_il_6_1 (pc := 31) cx dX7_beginsIn_31 ?_
      refine z_imul (pc := 32) cx dX7_beginsIn_32 ?_
      refine z_iconst (pc := 33) cx dX7_beginsIn_33 ?_
      refine z_il_6_2 (pc := 34) cx dX7_beginsIn_34 ?_
      refine z_imul (pc := 35) cx dX7_beginsIn_35 ?_
      refine z_iadd (pc := 36) cx dX7_beginsIn_36 ?_
      refine z_il_6_5 (pc := 37) cx dX7_beginsIn_37 ?_
      refine z_iadd (pc := 39) cx dX7_beginsIn_39 ?_
      refine m_iald (pc := 40) (k := 12) (L := 45) cx hm ⟨rfl, rfl, by decide, by decide⟩ dX7_beginsIn_40 (by omega) ?_
      refine z_iadd (pc := 41) cx dX7_beginsIn_41 ?_
      refine z_iconst (pc := 42) cx dX7_beginsIn_42 ?_
      refine z_iadd (pc := 43) cx dX7_beginsIn_43 ?_
      refine z_is_6_4 (pc := 44) cx dX7_beginsIn_44 ?_
      refine z_ii_6_5 (pc := 46) cx dX7_beginsIn_46 ?_
      refine g_goto (pc := 49) (tgt := 6) cx (by decide) dX7_beginsIn_49 ?_
      exact ih (n - 1) (by omega) (x + 1) σ (by omega) hm hF
  exact J6 j 0 σ0 (by omega) hm hF

set_option maxRecDepth 100000 in
set_option maxHeartbeats 4000000 in
theorem c_X7_spanOf {lc : Launch} {dA : Nat → ClassId} {ad : Nat → Nat} {σ0 : hS} {h : Nat} {S : mS} (hm : mat dA ad σ0 h S) {k l t : Int} (hk : 0 ≤ k ∧ k ≤ 2) (hs : mSch S k) (hl : -1000000 ≤ l ∧ l ≤ 1000000) (ht : 0 ≤ t ∧ t ≤ 10000000) : gM lc dA yX7_spanOf (.code yX7_spanOf cX7_spanOf 7 (some .int)) { frames := 1, cells := 0, slots := 0, locals := 25 } σ0 [.ref h, .int (iI k), .int (iI l), .int (iI t)] (mP dA ad h σ0 (some (.int (iI (spF S k l t)))) (S)) nX := by
  refine gM_body (by decide +kernel) (by simp [Value.category]) (Nat.le_of_ble_eq_true rfl) (fun Γ hdA cx rx nx => ?_)
  subst hdA
  have cx : CX lc Γ cX7_spanOf RX7 7 { frames := 1, cells := 0, slots := 0, locals := 25 } := cx
  show G Γ σ0 0 0 0 [some (.ref h), some (.int (iI k)), some (.int (iI l)), some (.int (iI t)), none, none, none] []
  have hF : mFr ad h σ0 σ0 := mFr.rf
  refine z_iconst (pc := 0) cx dX7_spanOf_0 ?_
  refine z_is_7_4 (pc := 1) cx dX7_spanOf_1 ?_
  have J3 : ∀ (n i : Nat) (x5 x6 : Option Value) (σ : hS), i + n = (S 7 k).toNat → (∀ i' : Nat, i' < i → spI S k l t i' = false) → mat (gdA Γ) ad σ h S → mFr ad h σ0 σ → G Γ σ 0 0 3 [some (.ref h), some (.int (iI (k))), some (.int (iI (l))), some (.int (iI (t))), some (.int (iI ((i : Int)))), x5, x6] [] := by
    intro n
    induction n using Nat.strongRecOn with
    | _ n ih =>
    intro i x5 x6 σ hn hno hm hF
    have hs1 := hs.1
    refine z_il_7_4 (pc := 3) cx dX7_spanOf_3 ?_
    refine z_al_7_0 (pc := 5) cx dX7_spanOf_5 ?_
    refine m_get (pc := 6) cx hm fl_X7_25 rfl dX7_spanOf_6 ?_
    refine z_il_7_1 (pc := 9) cx dX7_spanOf_9 ?_
    refine m_iald (pc := 10) (k := 7) (L := 3) cx hm ⟨rfl, rfl, by decide, by decide⟩ dX7_spanOf_10 (by omega) ?_
    refine z_icmp_ge (pc := 11) (tgt := 116) cx (by omega) (by decide) dX7_spanOf_11 (fun c_11 => ?_) (fun c_11 => ?_)
    · skip
      refine z_iconst (pc := 116) cx dX7_spanOf_116 ?_
      exact z_ret (pc := 117) cx rx (by decide) (by decide) dX7_spanOf_117 ⟨by rw [spF, fstN_none (fun i' q => hno i' (by omega))], hm, hF⟩
    · skip
      have hsi := hs.2 (i : Int) (by omega) (by omega)
      obtain ⟨g8, g9, g10, g11, g11b, g11c, -, -⟩ := id hsi
      refine z_iconst (pc := 14) cx dX7_spanOf_14 ?_
      refine z_is_7_5 (pc := 15) cx dX7_spanOf_15 ?_
      have J17 : ∀ (n2 j : Nat) (x6 : Option Value) (σ : hS), j + n2 = 3 → (∀ j' : Nat, j' < j → spAt S (5 * k + (i : Int)) (15 * k + 3 * (i : Int)) l t j' = false) → mat (gdA Γ) ad σ h S → mFr ad h σ0 σ → G Γ σ 0 0 17 [some (.ref h), some (.int (iI (k))), some (.int (iI (l))), some (.int (iI (t))), some (.int (iI ((i : Int)))), some (.int (iI ((j : Int)))), x6] [] := by
        intro n2
        induction n2 using Nat.strongRecOn with
        | _ n2 ih2 =>
        intro j x6 σ hn2 hno2 hm hF
        refine z_il_7_5 (pc := 17) cx dX7_spanOf_17 ?_
        refine z_iconst (pc := 19) cx dX7_spanOf_19 ?_
        refine z_icmp_ge (pc := 20) (tgt := 110) cx (by omega) (by decide) dX7_spanOf_20 (fun c_20 => ?_) (fun c_20 => ?_)
        · skip
          refine z_ii_7_4 (pc := 110) cx dX7_spanOf_110 ?_
          refine g_goto (pc := 113) (tgt := 3) cx (by decide) dX7_spanOf_113 ?_
          exact ih (n - 1) (by omega) (i + 1) _ _ σ (by omega) (fun i' q => (Nat.lt_succ_iff_lt_or_eq.mp q).elim (hno i') (fun q => by rw [q]; exact anyN_0 (fun j hj => hno2 j (by omega)))) hm hF
        · skip
          have hb := binF_r hsi j (by omega)
          have gj : -1 ≤ S 11 (15 * k + 3 * (i : Int) + (j : Int)) ∧ S 11 (15 * k + 3 * (i : Int) + (j : Int)) < 6 := by
            rcases (show j = 0 ∨ j = 1 ∨ j = 2 by omega) with rfl | rfl | rfl
            · simpa using (show -1 ≤ S 11 (15 * k + 3 * (i : Int)) ∧ S 11 (15 * k + 3 * (i : Int)) < 6 by omega)
            · exact g11b
            · exact g11c
          refine z_al_7_0 (pc := 23) cx dX7_spanOf_23 ?_
          refine m_get (pc := 24) cx hm fl_X7_34 rfl dX7_spanOf_24 ?_
          refine z_iconst (pc := 27) cx dX7_spanOf_27 ?_
          refine z_il_7_1 (pc := 28) cx dX7_spanOf_28 ?_
          refine z_imul (pc := 29) cx dX7_spanOf_29 ?_
          refine z_il_7_4 (pc := 30) cx dX7_spanOf_30 ?_
          refine z_iadd (pc := 32) cx dX7_spanOf_32 ?_
          refine m_iald (pc := 33) (k := 10) (L := 15) cx hm ⟨rfl, rfl, by decide, by decide⟩ dX7_spanOf_33 (by omega) ?_
          refine z_al_7_0 (pc := 34) cx dX7_spanOf_34 ?_
          refine z_il_7_1 (pc := 35) cx dX7_spanOf_35 ?_
          refine z_il_7_4 (pc := 36) cx dX7_spanOf_36 ?_
          refine z_il_7_5 (pc := 38) cx dX7_spanOf_38 ?_
          refine m_callV (pc := 40) cx lk_X7_127 (c_X7_beginsIn hm (j := j) hk (by omega) (by omega) rfl rfl) hm hF rfl gy_X7_beginsIn ⟨⟨by decide, by decide⟩, by decide, by decide⟩ ⟨rfl, rfl⟩ rfl rfl (Nat.le_of_ble_eq_true rfl) dX7_spanOf_40 ?_
          intro σ hm hF
          show G Γ _ _ _ 43 _ (.int (iI _) :: _)
          refine z_iadd (pc := 43) cx dX7_spanOf_43 ?_
          refine z_iconst (pc := 44) cx dX7_spanOf_44 ?_
          refine z_isub (pc := 45) cx dX7_spanOf_45 ?_
          refine z_is_7_6 (pc := 46) cx dX7_spanOf_46 ?_
          refine z_al_7_0 (pc := 48) cx dX7_spanOf_48 ?_
          refine m_get (pc := 49) cx hm fl_X7_37 rfl dX7_spanOf_49 ?_
          refine z_bipush (pc := 52) cx rfl dX7_spanOf_52 ?_
          refine z_il_7_1 (pc := 54) cx dX7_spanOf_54 ?_
          refine z_imul (pc := 55) cx dX7_spanOf_55 ?_
          refine z_iconst (pc := 56) cx dX7_spanOf_56 ?_
          refine z_il_7_4 (pc := 57) cx dX7_spanOf_57 ?_
          refine z_imul (pc := 59) cx dX7_spanOf_59 ?_
          refine z_iadd (pc := 60) cx dX7_spanOf_60 ?_
          refine z_il_7_5 (pc := 61) cx dX7_spanOf_61 ?_
          refine z_iadd (pc := 63) cx dX7_spanOf_63 ?_
          refine m_iald (pc := 64) (k := 11) (L := 45) cx hm ⟨rfl, rfl, by decide, by decide⟩ dX7_spanOf_64 (by omega) ?_
          refine z_il_7_2 (pc := 65) cx dX7_spanOf_65 ?_
          refine z_icmp_ne (pc := 66) (tgt := 104) cx (by omega) (by decide) dX7_spanOf_66 (fun c_66 => ?_) (fun c_66 => ?_)
          · skip
            refine z_ii_7_5 (pc := 104) cx dX7_spanOf_104 ?_
            refine g_goto (pc := 107) (tgt := 17) cx (by decide) dX7_spanOf_107 ?_
            exact ih2 (n2 - 1) (by omega) (j + 1) _ σ (by omega) (fun j' q => (Nat.lt_succ_iff_lt_or_eq.mp q).elim (hno2 j') (fun q => by rw [q, spAt]; first | rw [decide_eq_false c_66]; rfl | (rw [decide_eq_false (show ¬ (t - (S 10 (5 * k + (i : Int)) + binF S (5 * k + (i : Int)) (15 * k + 3 * (i : Int)) j - 1)) % S 8 (5 * k + (i : Int)) ≤ S 9 (5 * k + (i : Int)) by omega)]; simp))) hm hF
          · skip
            refine z_il_7_3 (pc := 69) cx dX7_spanOf_69 ?_
            refine z_il_7_6 (pc := 70) cx dX7_spanOf_70 ?_
            refine z_isub (pc := 72) cx dX7_spanOf_72 ?_
            refine z_al_7_0 (pc := 73) cx dX7_spanOf_73 ?_
            refine m_get (pc := 74) cx hm fl_X7_28 rfl dX7_spanOf_74 ?_
            refine z_iconst (pc := 77) cx dX7_spanOf_77 ?_
            refine z_il_7_1 (pc := 78) cx dX7_spanOf_78 ?_
            refine z_imul (pc := 79) cx dX7_spanOf_79 ?_
            refine z_il_7_4 (pc := 80) cx dX7_spanOf_80 ?_
            refine z_iadd (pc := 82) cx dX7_spanOf_82 ?_
            refine m_iald (pc := 83) (k := 8) (L := 15) cx hm ⟨rfl, rfl, by decide, by decide⟩ dX7_spanOf_83 (by omega) ?_
            refine m_callS (pc := 84) cx lk_X7_104 (c_X7_modulo (by omega)) gy_X7_modulo ⟨⟨by decide, by decide⟩, by decide, by decide⟩ ⟨rfl, rfl⟩ rfl rfl (Nat.le_of_ble_eq_true rfl) dX7_spanOf_84 ?_
            show G Γ _ _ _ 87 _ (.int (iI _) :: _)
            have hm1 := Int.emod_nonneg (t - (S 10 (5 * k + (i : Int)) + binF S (5 * k + (i : Int)) (15 * k + 3 * (i : Int)) j - 1)) (show S 8 (5 * k + (i : Int)) ≠ 0 by omega)
            have hm2 := Int.emod_lt_of_pos (t - (S 10 (5 * k + (i : Int)) + binF S (5 * k + (i : Int)) (15 * k + 3 * (i : Int)) j - 1)) (show 0 < S 8 (5 * k + (i : Int)) by omega)
            refine z_al_7_0 (pc := 87) cx dX7_spanOf_87 ?_
            refine m_get (pc := 88) cx hm fl_X7_31 rfl dX7_spanOf_88 ?_
            refine z_iconst (pc := 91) cx dX7_spanOf_91 ?_
            refine z_il_7_1 (pc := 92) cx dX7_spanOf_92 ?_
            refine z_imul (pc := 93) cx dX7_spanOf_93 ?_
            refine z_il_7_4 (pc := 94) cx dX7_spanOf_94 ?_
            refine z_iadd (pc := 96) cx dX7_spanOf_96 ?_
            refine m_iald (pc := 97) (k := 9) (L := 15) cx hm ⟨rfl, rfl, by decide, by decide⟩ dX7_spanOf_97 (by omega) ?_
            refine z_icmp_gt (pc := 98) (tgt := 104) cx (by omega) (by decide) dX7_spanOf_98 (fun c_98 => ?_) (fun c_98 => ?_)
            · skip
              refine z_ii_7_5 (pc := 104) cx dX7_spanOf_104 ?_
              refine g_goto (pc := 107) (tgt := 17) cx (by decide) dX7_spanOf_107 ?_
              exact ih2 (n2 - 1) (by omega) (j + 1) _ σ (by omega) (fun j' q => (Nat.lt_succ_iff_lt_or_eq.mp q).elim (hno2 j') (fun q => by rw [q, spAt]; first | rw [decide_eq_false c_66]; rfl | (rw [decide_eq_false (show ¬ (t - (S 10 (5 * k + (i : Int)) + binF S (5 * k + (i : Int)) (15 * k + 3 * (i : Int)) j - 1)) % S 8 (5 * k + (i : Int)) ≤ S 9 (5 * k + (i : Int)) by omega)]; simp))) hm hF
            · skip
              refine z_il_7_4 (pc := 101) cx dX7_spanOf_101 ?_
              exact z_ret (pc := 103) cx rx (by decide) (by decide) dX7_spanOf_103 ⟨by rw [spF, fstN_hit hno (anyN_iff.mpr ⟨j, by omega, by rw [spAt, decide_eq_true c_66, decide_eq_true c_98]; rfl⟩) (by omega)], hm, hF⟩
      exact J17 3 0 _ σ rfl (fun j q => absurd q (Nat.not_lt_zero _)) hm hF
  exact J3 (S 7 k).toNat 0 _ _ σ0 (by omega) (fun i q => absurd q (Nat.not_lt_zero _)) hm hF
