/-! contracts (walks laid by program) -/
set_option maxRecDepth 100000 in
set_option maxHeartbeats 4000000 in
theorem c_X7_talk {lc : Launch} {dA : Nat → ClassId} {ad : Nat → Nat} {σ0 : hS} {h : Nat} {S : mS} (hm : mat dA ad σ0 h S) {i on t : Int} (hi : -2147483648 ≤ i ∧ i ≤ 2147483647) (ho : on = 0 ∨ on = 1) (ht : -2147483648 ≤ t ∧ t ≤ 2147483647) (hs : -1 ≤ S 7 2 ∧ S 7 2 ≤ 5) : gM lc dA yX7_talk (.code yX7_talk cX7_talk 4 none) { frames := 1, cells := 0, slots := 0, locals := 21 } σ0 [.ref h, .int (iI i), .int (iI on), .int (iI t)] (mP dA ad h σ0 none (talkS S i on t)) nX := by
  refine gM_body (by decide +kernel) (by simp [Value.category]) (Nat.le_of_ble_eq_true rfl) (fun Γ hdA cx rx nx => ?_)
  subst hdA
  have cx : CX lc Γ cX7_talk RX7 4 { frames := 1, cells := 0, slots := 0, locals := 21 } := cx
  show G Γ σ0 0 0 0 [some (.ref h), some (.int (iI i)), some (.int (iI on)), some (.int (iI t))] []
  have hF : mFr ad h σ0 σ0 := mFr.rf
  have J28 : ∀ (e : Int) (σ : hS), e = thK S i t → mat (gdA Γ) ad σ h S → mFr ad h σ0 σ → G Γ σ 0 0 28 [some (.ref h), some (.int (iI (i))), some (.int (iI (on))), some (.int (iI (t)))] [.int (iI e), .ref h] := by
    intro e σ he hm hF
    have her : 0 ≤ e ∧ e ≤ 2 := by rw [he]; unfold thK; (repeat' split) <;> omega
    refine m_put (pc := 28) cx hm hF fl_X7_89 ⟨rfl, rfl, by decide, rfl⟩ (mFs_0 _ _ _) dX7_talk_28 ?_
    intro σ hm hF
    refine z_al_4_0 (pc := 31) cx dX7_talk_31 ?_
    refine m_get (pc := 32) cx hm fl_X7_89 rfl dX7_talk_32 ?_
    refine z_if_ne (pc := 35) (tgt := 60) cx (by rw [mw_s]; omega) (by decide) dX7_talk_35 (fun c_35 => ?_) (fun c_35 => ?_)
    · skip
      exact g_return (pc := 60) cx rx (by decide) (by decide) dX7_talk_60 ⟨rfl, (by
        unfold talkS
        rw [← he]
        first
        | (rw [if_pos c_35, if_pos c_44]; exact hm)
        | (rw [if_pos c_35, if_neg c_44]; exact hm)
        | (rw [mw_s] at c_35; rw [if_neg c_35]; exact hm)), hF⟩
    · skip
      rw [mw_s] at c_35
      have hz := thK_0 (S := S) (i := i) (t := t) (by omega)
      refine z_al_4_0 (pc := 38) cx dX7_talk_38 ?_
      refine m_get (pc := 39) cx hm fl_X7_46 rfl dX7_talk_39 ?_
      refine z_il_4_1 (pc := 42) cx dX7_talk_42 ?_
      refine z_il_4_2 (pc := 43) cx dX7_talk_43 ?_
      refine z_if_ne (pc := 44) (tgt := 51) cx (by omega) (by decide) dX7_talk_44 (fun c_44 => ?_) (fun c_44 => ?_)
      · skip
        refine z_iconst (pc := 51) cx dX7_talk_51 ?_
        refine m_zast (pc := 52) (k := 16) (L := 5) cx hm hF ⟨rfl, rfl, by decide, by decide⟩ dX7_talk_52 (by omega) (by omega) ?_
        intro σ hm hF
        refine z_al_4_0 (pc := 53) cx dX7_talk_53 ?_
        refine m_get (pc := 54) cx hm fl_X7_50 rfl dX7_talk_54 ?_
        refine z_il_4_1 (pc := 57) cx dX7_talk_57 ?_
        refine z_il_4_3 (pc := 58) cx dX7_talk_58 ?_
        refine m_iast (pc := 59) (k := 17) (L := 5) cx hm hF ⟨rfl, rfl, by decide, by decide⟩ dX7_talk_59 (by omega) ?_
        intro σ hm hF
        exact g_return (pc := 60) cx rx (by decide) (by decide) dX7_talk_60 ⟨rfl, (by
          unfold talkS
          rw [← he]
          first
          | (rw [if_pos c_35, if_pos c_44]; exact hm)
          | (rw [if_pos c_35, if_neg c_44]; exact hm)
          | (rw [mw_s] at c_35; rw [if_neg c_35]; exact hm)), hF⟩
      · skip
        refine z_iconst (pc := 47) cx dX7_talk_47 ?_
        refine g_goto (pc := 48) (tgt := 52) cx (by decide) dX7_talk_48 ?_
        refine m_zast (pc := 52) (k := 16) (L := 5) cx hm hF ⟨rfl, rfl, by decide, by decide⟩ dX7_talk_52 (by omega) (by omega) ?_
        intro σ hm hF
        refine z_al_4_0 (pc := 53) cx dX7_talk_53 ?_
        refine m_get (pc := 54) cx hm fl_X7_50 rfl dX7_talk_54 ?_
        refine z_il_4_1 (pc := 57) cx dX7_talk_57 ?_
        refine z_il_4_3 (pc := 58) cx dX7_talk_58 ?_
        refine m_iast (pc := 59) (k := 17) (L := 5) cx hm hF ⟨rfl, rfl, by decide, by decide⟩ dX7_talk_59 (by omega) ?_
        intro σ hm hF
        exact g_return (pc := 60) cx rx (by decide) (by decide) dX7_talk_60 ⟨rfl, (by
          unfold talkS
          rw [← he]
          first
          | (rw [if_pos c_35, if_pos c_44]; exact hm)
          | (rw [if_pos c_35, if_neg c_44]; exact hm)
          | (rw [mw_s] at c_35; rw [if_neg c_35]; exact hm)), hF⟩
  refine z_al_4_0 (pc := 0) cx dX7_talk_0 ?_
  refine z_al_4_0 (pc := 1) cx dX7_talk_1 ?_
  refine z_il_4_1 (pc := 2) cx dX7_talk_2 ?_
  refine m_callV (pc := 3) cx lk_X7_186 (c_X7_isTalker hm hi hs) hm hF rfl gy_X7_isTalker ⟨⟨by decide, by decide⟩, by decide, by decide⟩ ⟨rfl, rfl⟩ rfl rfl (Nat.le_of_ble_eq_true rfl) dX7_talk_3 ?_
  intro σ hm hF
  show G Γ _ _ _ 6 _ (.int (iI _) :: _)
  refine z_if_ne (pc := 6) (tgt := 13) cx (by have := bz_r (isTk S i); omega) (by decide) dX7_talk_6 (fun c_6 => ?_) (fun c_6 => ?_)
  · skip
    refine z_il_4_3 (pc := 13) cx dX7_talk_13 ?_
    refine z_if_lt (pc := 14) (tgt := 23) cx (by omega) (by decide) dX7_talk_14 (fun c_14 => ?_) (fun c_14 => ?_)
    · skip
      refine z_iconst (pc := 23) cx dX7_talk_23 ?_
      refine g_goto (pc := 24) (tgt := 28) cx (by decide) dX7_talk_24 ?_
      exact J28 _ _ (by rw [thK, if_neg (by rw [bz_n0.mp c_6]; decide), if_pos (by omega)]) hm hF
    · skip
      refine z_il_4_3 (pc := 17) cx dX7_talk_17 ?_
      refine z_bipush (pc := 18) cx rfl dX7_talk_18 ?_
      refine z_icmp_le (pc := 20) (tgt := 27) cx (by omega) (by decide) dX7_talk_20 (fun c_20 => ?_) (fun c_20 => ?_)
      · skip
        refine z_iconst (pc := 27) cx dX7_talk_27 ?_
        exact J28 _ _ (by rw [thK, if_neg (by rw [bz_n0.mp c_6]; decide), if_neg (by omega)]) hm hF
      · skip
        refine z_iconst (pc := 23) cx dX7_talk_23 ?_
        refine g_goto (pc := 24) (tgt := 28) cx (by decide) dX7_talk_24 ?_
        exact J28 _ _ (by rw [thK, if_neg (by rw [bz_n0.mp c_6]; decide), if_pos (by omega)]) hm hF
  · skip
    refine z_iconst (pc := 9) cx dX7_talk_9 ?_
    refine g_goto (pc := 10) (tgt := 28) cx (by decide) dX7_talk_10 ?_
    exact J28 _ _ (by rw [thK, if_pos (bz_0.mp c_6)]) hm hF

set_option maxRecDepth 100000 in
set_option maxHeartbeats 4000000 in
theorem c_X7_unblock {lc : Launch} {dA : Nat → ClassId} {ad : Nat → Nat} {σ0 : hS} {h : Nat} {S : mS} (hm : mat dA ad σ0 h S) {i : Int} (hi : -2147483648 ≤ i ∧ i ≤ 2147483647) (hs : -1 ≤ S 7 2 ∧ S 7 2 ≤ 5) (hb : ∀ i, 0 ≤ i → i < 5 → S 18 i = 0 ∨ S 18 i = 1) : gM lc dA yX7_unblock (.code yX7_unblock cX7_unblock 3 (some .boolean)) { frames := 1, cells := 0, slots := 0, locals := 21 } σ0 [.ref h, .int (iI i)] (mP dA ad h σ0 (some (.int (iI (bz (unbB S i))))) (unbS S i)) nX := by
  refine gM_body (by decide +kernel) (by simp [Value.category]) (Nat.le_of_ble_eq_true rfl) (fun Γ hdA cx rx nx => ?_)
  subst hdA
  have cx : CX lc Γ cX7_unblock RX7 3 { frames := 1, cells := 0, slots := 0, locals := 21 } := cx
  show G Γ σ0 0 0 0 [some (.ref h), some (.int (iI i)), none] []
  have hF : mFr ad h σ0 σ0 := mFr.rf
  have J14 : ∀ (e : Int) (σ : hS), e = thU S i → mat (gdA Γ) ad σ h S → mFr ad h σ0 σ → G Γ σ 0 0 14 [some (.ref h), some (.int (iI (i))), none] [.int (iI e), .ref h] := by
    intro e σ he hm hF
    have her : 0 ≤ e ∧ e ≤ 1 := by rw [he]; unfold thU; split <;> omega
    refine m_put (pc := 14) cx hm hF fl_X7_89 ⟨rfl, rfl, by decide, rfl⟩ (mFs_0 _ _ _) dX7_unblock_14 ?_
    intro σ hm hF
    have J38 : ∀ (b : Int) (σ : hS), b = bz (unbB S i) → mat (gdA Γ) ad σ h (mw S 0 0 e) → mFr ad h σ0 σ → G Γ σ 0 0 38 [some (.ref h), some (.int (iI (i))), none] [.int (iI b)] := by
      intro b σ hb9 hm hF
      subst hb9
      have hbr := bz_r (unbB S i)
      refine z_is_3_2 (pc := 38) cx dX7_unblock_38 ?_
      refine z_il_3_2 (pc := 39) cx dX7_unblock_39 ?_
      refine z_if_eq (pc := 40) (tgt := 50) cx (by omega) (by decide) dX7_unblock_40 (fun c_40 => ?_) (fun c_40 => ?_)
      · skip
        refine z_il_3_2 (pc := 50) cx dX7_unblock_50 ?_
        exact (z_retb (pc := 51) (b := unbB S i) cx rx (by decide) (by decide) dX7_unblock_51 rfl ⟨rfl, (by
          unfold unbS
          rw [← he]
          first
          | (rw [if_pos (bz_n0.mp c_40)]; exact hm)
          | (rw [if_neg (by rw [bz_0.mp c_40]; decide)]; exact hm)), hF⟩)
      · skip
        have q := bz_n0.mp c_40
        rw [unbB, ← he] at q
        simp only [Bool.and_eq_true, decide_eq_true_eq] at q
        have hz := thU_0 (S := S) (i := i) (by omega)
        refine z_al_3_0 (pc := 43) cx dX7_unblock_43 ?_
        refine m_get (pc := 44) cx hm fl_X7_53 rfl dX7_unblock_44 ?_
        refine z_il_3_1 (pc := 47) cx dX7_unblock_47 ?_
        refine z_iconst (pc := 48) cx dX7_unblock_48 ?_
        refine m_zast (pc := 49) (k := 18) (L := 5) cx hm hF ⟨rfl, rfl, by decide, by decide⟩ dX7_unblock_49 (by omega) (by omega) ?_
        intro σ hm hF
        refine z_il_3_2 (pc := 50) cx dX7_unblock_50 ?_
        exact (z_retb (pc := 51) (b := unbB S i) cx rx (by decide) (by decide) dX7_unblock_51 rfl ⟨rfl, (by
          unfold unbS
          rw [← he]
          first
          | (rw [if_pos (bz_n0.mp c_40)]; exact hm)
          | (rw [if_neg (by rw [bz_0.mp c_40]; decide)]; exact hm)), hF⟩)
    refine z_al_3_0 (pc := 17) cx dX7_unblock_17 ?_
    refine m_get (pc := 18) cx hm fl_X7_89 rfl dX7_unblock_18 ?_
    refine z_if_ne (pc := 21) (tgt := 37) cx (by rw [mw_s]; omega) (by decide) dX7_unblock_21 (fun c_21 => ?_) (fun c_21 => ?_)
    · skip
      refine z_iconst (pc := 37) cx dX7_unblock_37 ?_
      exact J38 _ _ (by
        rw [unbB, ← he]
        first
        | (rw [decide_eq_false (p := e = 0) c_21]; rfl)
        | (rw [decide_eq_false (p := S 18 i ≠ 0) (fun q => q c_30), Bool.and_false]; rfl)) hm hF
    · skip
      rw [mw_s] at c_21
      have hz := thU_0 (S := S) (i := i) (by omega)
      refine z_al_3_0 (pc := 24) cx dX7_unblock_24 ?_
      refine m_get (pc := 25) cx hm fl_X7_53 rfl dX7_unblock_25 ?_
      refine z_il_3_1 (pc := 28) cx dX7_unblock_28 ?_
      refine m_zald (pc := 29) (k := 18) (L := 5) cx hm ⟨rfl, rfl, by decide, by decide⟩ dX7_unblock_29 (by omega) ?_
      refine z_if_eq (pc := 30) (tgt := 37) cx (by show -2147483648 ≤ S 18 i ∧ S 18 i ≤ 2147483647; have := hb i (by omega) (by omega); omega) (by decide) dX7_unblock_30 (fun c_30 => ?_) (fun c_30 => ?_)
      · skip
        refine z_iconst (pc := 37) cx dX7_unblock_37 ?_
        exact J38 _ _ (by
          rw [unbB, ← he]
          first
          | (rw [decide_eq_false (p := e = 0) c_21]; rfl)
          | (rw [decide_eq_false (p := S 18 i ≠ 0) (fun q => q c_30), Bool.and_false]; rfl)) hm hF
      · skip
        refine z_iconst (pc := 33) cx dX7_unblock_33 ?_
        refine g_goto (pc := 34) (tgt := 38) cx (by decide) dX7_unblock_34 ?_
        exact J38 _ _ (by rw [unbB, ← he, decide_eq_true c_21, decide_eq_true (p := S 18 i ≠ 0) c_30]; rfl) hm hF
  refine z_al_3_0 (pc := 0) cx dX7_unblock_0 ?_
  refine z_al_3_0 (pc := 1) cx dX7_unblock_1 ?_
  refine z_il_3_1 (pc := 2) cx dX7_unblock_2 ?_
  refine m_callV (pc := 3) cx lk_X7_186 (c_X7_isTalker hm hi hs) hm hF rfl gy_X7_isTalker ⟨⟨by decide, by decide⟩, by decide, by decide⟩ ⟨rfl, rfl⟩ rfl rfl (Nat.le_of_ble_eq_true rfl) dX7_unblock_3 ?_
  intro σ hm hF
  show G Γ _ _ _ 6 _ (.int (iI _) :: _)
  refine z_if_eq (pc := 6) (tgt := 13) cx (by have := bz_r (isTk S i); omega) (by decide) dX7_unblock_6 (fun c_6 => ?_) (fun c_6 => ?_)
  · skip
    refine z_iconst (pc := 13) cx dX7_unblock_13 ?_
    exact J14 _ _ (by rw [thU, if_neg (by rw [bz_0.mp c_6]; decide)]) hm hF
  · skip
    refine z_iconst (pc := 9) cx dX7_unblock_9 ?_
    refine g_goto (pc := 10) (tgt := 14) cx (by decide) dX7_unblock_10 ?_
    exact J14 _ _ (by rw [thU, if_pos (bz_n0.mp c_6)]) hm hF

set_option maxRecDepth 100000 in
set_option maxHeartbeats 4000000 in
theorem c_X7_cut {lc : Launch} {dA : Nat → ClassId} {ad : Nat → Nat} {σ0 : hS} {h : Nat} {S : mS} (hm : mat dA ad σ0 h S) {w on : Int} (hw : -2147483648 ≤ w ∧ w ≤ 2147483647) (ho : on = 0 ∨ on = 1) (hf : FW S) : gM lc dA yX7_cut (.code yX7_cut cX7_cut 4 (some .boolean)) { frames := 4, cells := 0, slots := 0, locals := 94 } σ0 [.ref h, .int (iI w), .int (iI on)] (mP dA ad h σ0 (some (.int (iI (bz (cutB S w on))))) (cutS S w on)) nX := by
  refine gM_body (by decide +kernel) (by simp [Value.category]) (Nat.le_of_ble_eq_true rfl) (fun Γ hdA cx rx nx => ?_)
  subst hdA
  have cx : CX lc Γ cX7_cut RX7 4 { frames := 4, cells := 0, slots := 0, locals := 94 } := cx
  show G Γ σ0 0 0 0 [some (.ref h), some (.int (iI w)), some (.int (iI on)), none] []
  have hF : mFr ad h σ0 σ0 := mFr.rf
  have hf1 := hf.1
  have J13 : ∀ (e : Int) (σ : hS), e = thC w → mat (gdA Γ) ad σ h S → mFr ad h σ0 σ → G Γ σ 0 0 13 [some (.ref h), some (.int (iI (w))), some (.int (iI (on))), none] [.int (iI e), .ref h] := by
    intro e σ he hm hF
    have her : 0 ≤ e ∧ e ≤ 1 := by rw [he]; unfold thC; split <;> omega
    refine m_put (pc := 13) cx hm hF fl_X7_89 ⟨rfl, rfl, by decide, rfl⟩ (mFs_0 _ _ _) dX7_cut_13 ?_
    intro σ hm hF
    refine z_al_4_0 (pc := 16) cx dX7_cut_16 ?_
    refine m_get (pc := 17) cx hm fl_X7_89 rfl dX7_cut_17 ?_
    refine z_if_gt (pc := 20) (tgt := 33) cx (by rw [mw_s]; omega) (by decide) dX7_cut_20 (fun c_20 => ?_) (fun c_20 => ?_)
    · skip
      refine z_iconst (pc := 33) cx dX7_cut_33 ?_
      exact (z_retb (pc := 34) (b := cutB S w on) cx rx (by decide) (by decide) dX7_cut_34 (by
        rw [cutB, ← he]
        first
        | (rw [mw_s] at c_20; rw [decide_eq_false (show ¬ e = 0 by omega)]; rfl)
        | (rw [decide_eq_false (p := S 26 w ≠ on) (fun q => q c_30), Bool.and_false]; rfl)) ⟨rfl, (by
        have q : cutB S w on = false := by
          rw [cutB, ← he]
          first
          | (rw [mw_s] at c_20; rw [decide_eq_false (show ¬ e = 0 by omega)]; rfl)
          | (rw [decide_eq_false (p := S 26 w ≠ on) (fun q => q c_30), Bool.and_false])
        unfold cutS
        rw [if_neg (by rw [q]; decide), ← he]
        exact hm), hF⟩)
    · skip
      rw [mw_s] at c_20
      have hw6 : 0 ≤ w ∧ w < 6 := by rw [he] at c_20; unfold thC at c_20; split at c_20 <;> omega
      have hcr := hf.2.2.2 w hw6.1 hw6.2
      refine z_al_4_0 (pc := 23) cx dX7_cut_23 ?_
      refine m_get (pc := 24) cx hm fl_X7_74 rfl dX7_cut_24 ?_
      refine z_il_4_1 (pc := 27) cx dX7_cut_27 ?_
      refine m_zald (pc := 28) (k := 26) (L := 6) cx hm ⟨rfl, rfl, by decide, by decide⟩ dX7_cut_28 (by omega) ?_
      refine z_il_4_2 (pc := 29) cx dX7_cut_29 ?_
      refine z_icmp_ne (pc := 30) (tgt := 35) cx (by show (-2147483648 ≤ S 26 w ∧ S 26 w ≤ 2147483647) ∧ (-2147483648 ≤ on ∧ on ≤ 2147483647); omega) (by decide) dX7_cut_30 (fun c_30 => ?_) (fun c_30 => ?_)
      · skip
        refine z_al_4_0 (pc := 35) cx dX7_cut_35 ?_
        refine m_get (pc := 36) cx hm fl_X7_74 rfl dX7_cut_36 ?_
        refine z_il_4_1 (pc := 39) cx dX7_cut_39 ?_
        refine z_il_4_2 (pc := 40) cx dX7_cut_40 ?_
        refine m_zast (pc := 41) (k := 26) (L := 6) cx hm hF ⟨rfl, rfl, by decide, by decide⟩ dX7_cut_41 (by omega) (ho) ?_
        intro σ hm hF
        refine z_al_4_0 (pc := 42) cx dX7_cut_42 ?_
        refine m_get (pc := 43) cx hm fl_X7_138 rfl dX7_cut_43 ?_
        refine z_iconst (pc := 46) cx dX7_cut_46 ?_
        refine z_isub (pc := 47) cx dX7_cut_47 ?_
        refine z_is_4_3 (pc := 48) cx dX7_cut_48 ?_
        have J92 : ∀ (T : mS) (m : Int) (σ : hS), T = cutX (mw S 0 0 e) w on → mat (gdA Γ) ad σ h T → mFr ad h σ0 σ → G Γ σ 0 0 92 [some (.ref h), some (.int (iI (w))), some (.int (iI (on))), some (.int (iI (m)))] [] := by
          intro T m σ hT hm hF
          refine z_al_4_0 (pc := 92) cx dX7_cut_92 ?_
          refine m_get (pc := 93) cx hm fl_X7_83 rfl dX7_cut_93 ?_
          refine z_il_4_1 (pc := 96) cx dX7_cut_96 ?_
          refine z_il_4_2 (pc := 97) cx dX7_cut_97 ?_
          refine z_if_eq (pc := 98) (tgt := 105) cx (by omega) (by decide) dX7_cut_98 (fun c_98 => ?_) (fun c_98 => ?_)
          · skip
            refine z_al_4_0 (pc := 105) cx dX7_cut_105 ?_
            refine m_get (pc := 106) cx hm fl_X7_83 rfl dX7_cut_106 ?_
            refine z_il_4_1 (pc := 109) cx dX7_cut_109 ?_
            refine m_iald (pc := 110) (k := 29) (L := 6) cx hm ⟨rfl, rfl, by decide, by decide⟩ dX7_cut_110 (by omega) ?_
            refine m_iast (pc := 111) (k := 29) (L := 6) cx hm hF ⟨rfl, rfl, by decide, by decide⟩ dX7_cut_111 (by omega) ?_
            intro σ hm hF
            refine z_iconst (pc := 112) cx dX7_cut_112 ?_
            have q : cutB S w on = true := by rw [cutB, ← he, decide_eq_true (show e = 0 by omega), decide_eq_true (p := S 26 w ≠ on) c_30]; rfl
            exact (z_retb (pc := 113) (b := cutB S w on) cx rx (by decide) (by decide) dX7_cut_113 (by rw [q]; rfl) ⟨rfl, (by
              unfold cutS
              rw [if_pos q, ← he, ← hT]
              unfold cutY
              first
              | (rw [if_pos c_98]; exact hm)
              | (rw [if_neg c_98]; exact hm)), hF⟩)
          · skip
            refine z_iconst (pc := 101) cx dX7_cut_101 ?_
            refine g_goto (pc := 102) (tgt := 111) cx (by decide) dX7_cut_102 ?_
            refine m_iast (pc := 111) (k := 29) (L := 6) cx hm hF ⟨rfl, rfl, by decide, by decide⟩ dX7_cut_111 (by omega) ?_
            intro σ hm hF
            refine z_iconst (pc := 112) cx dX7_cut_112 ?_
            have q : cutB S w on = true := by rw [cutB, ← he, decide_eq_true (show e = 0 by omega), decide_eq_true (p := S 26 w ≠ on) c_30]; rfl
            exact (z_retb (pc := 113) (b := cutB S w on) cx rx (by decide) (by decide) dX7_cut_113 (by rw [q]; rfl) ⟨rfl, (by
              unfold cutS
              rw [if_pos q, ← he, ← hT]
              unfold cutY
              first
              | (rw [if_pos c_98]; exact hm)
              | (rw [if_neg c_98]; exact hm)), hF⟩)
        have J49 : ∀ (n : Nat) (m : Int) (T : mS) (σ : hS), m = (n : Int) - 1 → (n : Int) ≤ T 23 0 → FW T → (if on = 0 then T else cu1 w n T) = cutX (mw S 0 0 e) w on → mat (gdA Γ) ad σ h T → mFr ad h σ0 σ → G Γ σ 0 0 49 [some (.ref h), some (.int (iI (w))), some (.int (iI (on))), some (.int (iI (m)))] [] := by
          intro n
          induction n using Nat.strongRecOn with
          | _ n ih =>
          intro m T σ hmn hnT hwT hR hm hF
          have hw1 := hwT.1
          refine z_il_4_3 (pc := 49) cx dX7_cut_49 ?_
          refine z_if_lt (pc := 50) (tgt := 92) cx (by omega) (by decide) dX7_cut_50 (fun c_50 => ?_) (fun c_50 => ?_)
          · skip
            exact J92 T _ σ (by
              obtain rfl : n = 0 := by omega
              rw [← hR]
              split <;> rfl) hm hF
          · skip
            refine z_il_4_2 (pc := 53) cx dX7_cut_53 ?_
            refine z_if_eq (pc := 54) (tgt := 92) cx (by omega) (by decide) dX7_cut_54 (fun c_54 => ?_) (fun c_54 => ?_)
            · skip
              exact J92 T _ σ (by rw [if_pos c_54] at hR; exact hR) hm hF
            · skip
              obtain ⟨n1, rfl⟩ : ∃ n1, n = n1 + 1 := ⟨n - 1, by omega⟩
              obtain rfl : m = (n1 : Int) := by omega
              have hfm := hwT.2.1 (n1 : Int) (by omega) (by omega)
              obtain ⟨f1, f2, f3, f4⟩ := id hfm
              refine z_al_4_0 (pc := 57) cx dX7_cut_57 ?_
              have J86 : ∀ (U : mS) (σ : hS), U = (if hitF T (n1 : Int) w = true then remF (mw T 20 (T 24 (n1 : Int)) (T 20 (T 24 (n1 : Int)) + 1)) (n1 : Int) else T) → mat (gdA Γ) ad σ h U → mFr ad h σ0 σ → G Γ σ 0 0 86 [some (.ref h), some (.int (iI (w))), some (.int (iI (on))), some (.int (iI ((n1 : Int))))] [] := by
                intro U σ hU hm hF
                have hUw := cu_step (w := w) hwT (n := n1) (by omega)
                rw [← hU] at hUw
                refine z_ii_4_3 (pc := 86) cx dX7_cut_86 ?_
                refine g_goto (pc := 89) (tgt := 49) cx (by decide) dX7_cut_89 ?_
                exact ih n1 (by omega) _ U σ (by omega) hUw.2 hUw.1 (by rw [if_neg c_54] at hR ⊢; rw [hU]; exact hR) hm hF
              refine z_il_4_3 (pc := 58) cx dX7_cut_58 ?_
              refine z_il_4_1 (pc := 59) cx dX7_cut_59 ?_
              refine m_callV (pc := 60) cx lk_X7_189 (c_X7_isHit hm hfm hwT.2.2.1 hw6) hm hF rfl gy_X7_isHit ⟨⟨by decide, by decide⟩, by decide, by decide⟩ ⟨rfl, rfl⟩ rfl rfl (Nat.le_of_ble_eq_true rfl) dX7_cut_60 ?_
              intro σ hm hF
              show G Γ _ _ _ 63 _ (.int (iI _) :: _)
              refine z_if_eq (pc := 63) (tgt := 86) cx (by have := bz_r (hitF T (n1 : Int) w); omega) (by decide) dX7_cut_63 (fun c_63 => ?_) (fun c_63 => ?_)
              · skip
                exact J86 _ σ (by rw [if_neg (by rw [bz_0.mp c_63]; decide)]) hm hF
              · skip
                refine z_al_4_0 (pc := 66) cx dX7_cut_66 ?_
                refine m_get (pc := 67) cx hm fl_X7_59 rfl dX7_cut_67 ?_
                refine z_al_4_0 (pc := 70) cx dX7_cut_70 ?_
                refine m_get (pc := 71) cx hm fl_X7_68 rfl dX7_cut_71 ?_
                refine z_il_4_3 (pc := 74) cx dX7_cut_74 ?_
                refine m_iald (pc := 75) (k := 24) (L := 64) cx hm ⟨rfl, rfl, by decide, by decide⟩ dX7_cut_75 (by omega) ?_
                refine g_dup2 (pc := 76) cx rfl rfl dX7_cut_76 ?_
                refine m_iald (pc := 77) (k := 20) (L := 5) cx hm ⟨rfl, rfl, by decide, by decide⟩ dX7_cut_77 (by omega) ?_
                refine z_iconst (pc := 78) cx dX7_cut_78 ?_
                refine z_iadd (pc := 79) cx dX7_cut_79 ?_
                refine m_iast (pc := 80) (k := 20) (L := 5) cx hm hF ⟨rfl, rfl, by decide, by decide⟩ dX7_cut_80 (by omega) ?_
                intro σ hm hF
                refine z_al_4_0 (pc := 81) cx dX7_cut_81 ?_
                refine z_il_4_3 (pc := 82) cx dX7_cut_82 ?_
                refine m_callV (pc := 83) cx lk_X7_157 (c_X7_remove hm (f := (n1 : Int)) (by rw [mw_k (by decide)]; omega) (by rw [mw_k (by decide)]; omega)) hm hF rfl gy_X7_remove ⟨⟨by decide, by decide⟩, by decide, by decide⟩ ⟨rfl, rfl⟩ rfl rfl (Nat.le_of_ble_eq_true rfl) dX7_cut_83 ?_
                intro σ hm hF
                show G Γ _ _ _ 86 _ _
                exact J86 _ σ (by rw [if_pos (bz_n0.mp c_63)]) hm hF
        exact J49 (S 23 0).toNat _ (mw (mw S 0 0 e) 26 w on) σ (by show S 23 0 - 1 = _; omega) (by show _ ≤ S 23 0; omega) (FW_26 (FW_0 hf) ho) (by unfold cutX; rfl) hm hF
      · skip
        refine z_iconst (pc := 33) cx dX7_cut_33 ?_
        exact (z_retb (pc := 34) (b := cutB S w on) cx rx (by decide) (by decide) dX7_cut_34 (by
          rw [cutB, ← he]
          first
          | (rw [mw_s] at c_20; rw [decide_eq_false (show ¬ e = 0 by omega)]; rfl)
          | (rw [decide_eq_false (p := S 26 w ≠ on) (fun q => q c_30), Bool.and_false]; rfl)) ⟨rfl, (by
          have q : cutB S w on = false := by
            rw [cutB, ← he]
            first
            | (rw [mw_s] at c_20; rw [decide_eq_false (show ¬ e = 0 by omega)]; rfl)
            | (rw [decide_eq_false (p := S 26 w ≠ on) (fun q => q c_30), Bool.and_false])
          unfold cutS
          rw [if_neg (by rw [q]; decide), ← he]
          exact hm), hF⟩)
  refine z_al_4_0 (pc := 0) cx dX7_cut_0 ?_
  refine z_il_4_1 (pc := 1) cx dX7_cut_1 ?_
  refine m_callS (pc := 2) cx lk_X7_93 (c_X7_isLink (by omega)) gy_X7_isLink ⟨⟨by decide, by decide⟩, by decide, by decide⟩ ⟨rfl, rfl⟩ rfl rfl (Nat.le_of_ble_eq_true rfl) dX7_cut_2 ?_
  show G Γ _ _ _ 5 _ (.int (iI _) :: _)
  refine z_if_eq (pc := 5) (tgt := 12) cx (by have := bz_r (decide (0 ≤ w ∧ w < 6)); omega) (by decide) dX7_cut_5 (fun c_5 => ?_) (fun c_5 => ?_)
  · skip
    refine z_iconst (pc := 12) cx dX7_cut_12 ?_
    exact J13 _ _ (by rw [thC, if_neg (by have := bzd_0.mp c_5; omega)]) hm hF
  · skip
    refine z_iconst (pc := 8) cx dX7_cut_8 ?_
    refine g_goto (pc := 9) (tgt := 13) cx (by decide) dX7_cut_9 ?_
    exact J13 _ _ (by rw [thC, if_pos (by have := bzd_n0.mp c_5; omega)]) hm hF

set_option maxRecDepth 100000 in
set_option maxHeartbeats 4000000 in
theorem c_X7_babble {lc : Launch} {dA : Nat → ClassId} {ad : Nat → Nat} {σ0 : hS} {h : Nat} {S : mS} (hm : mat dA ad σ0 h S) {w t : Int} (hw : -2147483648 ≤ w ∧ w ≤ 2147483647) (ht : -2147483648 ≤ t ∧ t ≤ 2147483647) (hl : ∀ l, 0 ≤ l → l < 6 → 0 ≤ S 27 l ∧ S 27 l ≤ 4) : gM lc dA yX7_babble (.code yX7_babble cX7_babble 3 (some .int)) { frames := 1, cells := 0, slots := 0, locals := 20 } σ0 [.ref h, .int (iI w), .int (iI t)] (mP dA ad h σ0 (some (.int (iI (babR S w t)))) (babS S w t)) nX := by
  refine gM_body (by decide +kernel) (by simp [Value.category]) (Nat.le_of_ble_eq_true rfl) (fun Γ hdA cx rx nx => ?_)
  subst hdA
  have cx : CX lc Γ cX7_babble RX7 3 { frames := 1, cells := 0, slots := 0, locals := 20 } := cx
  show G Γ σ0 0 0 0 [some (.ref h), some (.int (iI w)), some (.int (iI t))] []
  have hF : mFr ad h σ0 σ0 := mFr.rf
  have J42 : ∀ (e : Int) (σ : hS), e = thB S w t → mat (gdA Γ) ad σ h S → mFr ad h σ0 σ → G Γ σ 0 0 42 [some (.ref h), some (.int (iI (w))), some (.int (iI (t)))] [.int (iI e), .ref h] := by
    intro e σ he hm hF
    have her : 0 ≤ e ∧ e ≤ 3 := by rw [he]; unfold thB; (repeat' split) <;> omega
    refine m_put (pc := 42) cx hm hF fl_X7_89 ⟨rfl, rfl, by decide, rfl⟩ (mFs_0 _ _ _) dX7_babble_42 ?_
    intro σ hm hF
    refine z_al_3_0 (pc := 45) cx dX7_babble_45 ?_
    refine m_get (pc := 46) cx hm fl_X7_89 rfl dX7_babble_46 ?_
    refine z_if_le (pc := 49) (tgt := 54) cx (by rw [mw_s]; omega) (by decide) dX7_babble_49 (fun c_49 => ?_) (fun c_49 => ?_)
    · skip
      rw [mw_s] at c_49
      have hz : (0 ≤ w ∧ w < 6) ∧ (1 ≤ t ∧ t ≤ 8) ∧ S 27 w ≠ 4 := by unfold thB at he; split at he; omega; split at he; omega; split at he <;> omega
      have hlw := hl w (by omega) (by omega)
      refine z_al_3_0 (pc := 54) cx dX7_babble_54 ?_
      refine m_get (pc := 55) cx hm fl_X7_80 rfl dX7_babble_55 ?_
      refine z_iconst (pc := 58) cx dX7_babble_58 ?_
      refine z_il_3_1 (pc := 59) cx dX7_babble_59 ?_
      refine z_imul (pc := 60) cx dX7_babble_60 ?_
      refine z_al_3_0 (pc := 61) cx dX7_babble_61 ?_
      refine m_get (pc := 62) cx hm fl_X7_77 rfl dX7_babble_62 ?_
      refine z_il_3_1 (pc := 65) cx dX7_babble_65 ?_
      refine m_iald (pc := 66) (k := 27) (L := 6) cx hm ⟨rfl, rfl, by decide, by decide⟩ dX7_babble_66 (by omega) ?_
      refine z_iadd (pc := 67) cx dX7_babble_67 ?_
      refine z_il_3_2 (pc := 68) cx dX7_babble_68 ?_
      refine m_iast (pc := 69) (k := 28) (L := 24) cx hm hF ⟨rfl, rfl, by decide, by decide⟩ dX7_babble_69 (by show 0 ≤ 4 * w + S 27 w ∧ 4 * w + S 27 w < ((24 : Nat) : Int); omega) ?_
      intro σ hm hF
      refine z_al_3_0 (pc := 70) cx dX7_babble_70 ?_
      refine m_get (pc := 71) cx hm fl_X7_77 rfl dX7_babble_71 ?_
      refine z_il_3_1 (pc := 74) cx dX7_babble_74 ?_
      refine g_dup2 (pc := 75) cx rfl rfl dX7_babble_75 ?_
      refine m_iald (pc := 76) (k := 27) (L := 6) cx hm ⟨rfl, rfl, by decide, by decide⟩ dX7_babble_76 (by omega) ?_
      refine z_iconst (pc := 77) cx dX7_babble_77 ?_
      refine z_iadd (pc := 78) cx dX7_babble_78 ?_
      refine m_iast (pc := 79) (k := 27) (L := 6) cx hm hF ⟨rfl, rfl, by decide, by decide⟩ dX7_babble_79 (by omega) ?_
      intro σ hm hF
      refine z_al_3_0 (pc := 80) cx dX7_babble_80 ?_
      refine m_get (pc := 81) cx hm fl_X7_77 rfl dX7_babble_81 ?_
      refine z_il_3_1 (pc := 84) cx dX7_babble_84 ?_
      refine m_iald (pc := 85) (k := 27) (L := 6) cx hm ⟨rfl, rfl, by decide, by decide⟩ dX7_babble_85 (by omega) ?_
      exact z_ret (pc := 86) cx rx (by decide) (by decide) dX7_babble_86 ⟨by rw [babR, ← he, if_pos (by omega), mw_s]; rfl, by unfold babS; rw [← he, if_pos (by omega)]; exact hm, hF⟩
    · skip
      refine z_iconst (pc := 52) cx dX7_babble_52 ?_
      rw [mw_s] at c_49
      exact z_ret (pc := 53) cx rx (by decide) (by decide) dX7_babble_53 ⟨by rw [babR, ← he, if_neg (by omega)], by unfold babS; rw [← he, if_neg (by omega)]; exact hm, hF⟩
  refine z_al_3_0 (pc := 0) cx dX7_babble_0 ?_
  refine z_il_3_1 (pc := 1) cx dX7_babble_1 ?_
  refine m_callS (pc := 2) cx lk_X7_93 (c_X7_isLink (by omega)) gy_X7_isLink ⟨⟨by decide, by decide⟩, by decide, by decide⟩ ⟨rfl, rfl⟩ rfl rfl (Nat.le_of_ble_eq_true rfl) dX7_babble_2 ?_
  show G Γ _ _ _ 5 _ (.int (iI _) :: _)
  refine z_if_ne (pc := 5) (tgt := 12) cx (by have := bz_r (decide (0 ≤ w ∧ w < 6)); omega) (by decide) dX7_babble_5 (fun c_5 => ?_) (fun c_5 => ?_)
  · skip
    have hwf := bzd_n0.mp c_5
    have hlw := hl w (by omega) (by omega)
    refine z_il_3_2 (pc := 12) cx dX7_babble_12 ?_
    refine z_iconst (pc := 13) cx dX7_babble_13 ?_
    refine z_icmp_lt (pc := 14) (tgt := 23) cx (by omega) (by decide) dX7_babble_14 (fun c_14 => ?_) (fun c_14 => ?_)
    · skip
      refine z_iconst (pc := 23) cx dX7_babble_23 ?_
      refine g_goto (pc := 24) (tgt := 42) cx (by decide) dX7_babble_24 ?_
      exact J42 _ _ (by
        try simp only [bzd_0, bzd_n0] at c_5
        unfold thB; (repeat' split) <;> omega) hm hF
    · skip
      refine z_il_3_2 (pc := 17) cx dX7_babble_17 ?_
      refine z_bipush (pc := 18) cx rfl dX7_babble_18 ?_
      refine z_icmp_le (pc := 20) (tgt := 27) cx (by omega) (by decide) dX7_babble_20 (fun c_20 => ?_) (fun c_20 => ?_)
      · skip
        refine z_al_3_0 (pc := 27) cx dX7_babble_27 ?_
        refine m_get (pc := 28) cx hm fl_X7_77 rfl dX7_babble_28 ?_
        refine z_il_3_1 (pc := 31) cx dX7_babble_31 ?_
        refine m_iald (pc := 32) (k := 27) (L := 6) cx hm ⟨rfl, rfl, by decide, by decide⟩ dX7_babble_32 (by omega) ?_
        refine z_iconst (pc := 33) cx dX7_babble_33 ?_
        refine z_icmp_ne (pc := 34) (tgt := 41) cx (by omega) (by decide) dX7_babble_34 (fun c_34 => ?_) (fun c_34 => ?_)
        · skip
          refine z_iconst (pc := 41) cx dX7_babble_41 ?_
          exact J42 _ _ (by
            try simp only [bzd_0, bzd_n0] at c_5
            unfold thB; (repeat' split) <;> omega) hm hF
        · skip
          refine z_iconst (pc := 37) cx dX7_babble_37 ?_
          refine g_goto (pc := 38) (tgt := 42) cx (by decide) dX7_babble_38 ?_
          exact J42 _ _ (by
            try simp only [bzd_0, bzd_n0] at c_5
            unfold thB; (repeat' split) <;> omega) hm hF
      · skip
        refine z_iconst (pc := 23) cx dX7_babble_23 ?_
        refine g_goto (pc := 24) (tgt := 42) cx (by decide) dX7_babble_24 ?_
        exact J42 _ _ (by
          try simp only [bzd_0, bzd_n0] at c_5
          unfold thB; (repeat' split) <;> omega) hm hF
  · skip
    refine z_iconst (pc := 8) cx dX7_babble_8 ?_
    refine g_goto (pc := 9) (tgt := 42) cx (by decide) dX7_babble_9 ?_
    exact J42 _ _ (by
      try simp only [bzd_0, bzd_n0] at c_5
      unfold thB; (repeat' split) <;> omega) hm hF

set_option maxRecDepth 100000 in
set_option maxHeartbeats 4000000 in
theorem c_X7_told {lc : Launch} {dA : Nat → ClassId} {ad : Nat → Nat} {σ0 : hS} {h : Nat} {S : mS} (hm : mat dA ad σ0 h S) {i u : Int} (hi : -2147483648 ≤ i ∧ i ≤ 2147483647) (hu : -2147483648 ≤ u ∧ u ≤ 2147483647) (hs : -1 ≤ S 7 2 ∧ S 7 2 ≤ 5) (hn : 0 ≤ S 23 0 ∧ S 23 0 ≤ 64) (hff : ∀ f, 0 ≤ f → f < S 23 0 → 0 ≤ S 24 f ∧ S 24 f < 5) (hb : ∀ i, 0 ≤ i → i < 5 → S 18 i = 0 ∨ S 18 i = 1) : gM lc dA yX7_told (.code yX7_told cX7_told 5 (some .int)) { frames := 1, cells := 0, slots := 0, locals := 21 } σ0 [.ref h, .int (iI i), .int (iI u)] (mP dA ad h σ0 (some (.int (iI (toldR S i u)))) (mw S 0 0 (thTo S i u))) nX := by
  refine gM_body (by decide +kernel) (by simp [Value.category]) (Nat.le_of_ble_eq_true rfl) (fun Γ hdA cx rx nx => ?_)
  subst hdA
  have cx : CX lc Γ cX7_told RX7 5 { frames := 1, cells := 0, slots := 0, locals := 21 } := cx
  show G Γ σ0 0 0 0 [some (.ref h), some (.int (iI i)), some (.int (iI u)), none, none] []
  have hF : mFr ad h σ0 σ0 := mFr.rf
  have J23 : ∀ (e : Int) (σ : hS), e = thTo S i u → mat (gdA Γ) ad σ h S → mFr ad h σ0 σ → G Γ σ 0 0 23 [some (.ref h), some (.int (iI (i))), some (.int (iI (u))), none, none] [.int (iI e), .ref h] := by
    intro e σ he hm hF
    have her : 0 ≤ e ∧ e ≤ 1 := by rw [he]; unfold thTo; (repeat' split) <;> omega
    refine m_put (pc := 23) cx hm hF fl_X7_89 ⟨rfl, rfl, by decide, rfl⟩ (mFs_0 _ _ _) dX7_told_23 ?_
    intro σ hm hF
    refine z_al_5_0 (pc := 26) cx dX7_told_26 ?_
    refine m_get (pc := 27) cx hm fl_X7_89 rfl dX7_told_27 ?_
    refine z_if_le (pc := 30) (tgt := 35) cx (by rw [mw_s]; omega) (by decide) dX7_told_30 (fun c_30 => ?_) (fun c_30 => ?_)
    · skip
      rw [mw_s] at c_30
      have hz := thTo_0 (S := S) (i := i) (u := u) (by omega)
      have he0 : thTo S i u = 0 := by omega
      refine z_iconst (pc := 35) cx dX7_told_35 ?_
      refine z_is_5_3 (pc := 36) cx dX7_told_36 ?_
      refine z_iconst (pc := 37) cx dX7_told_37 ?_
      refine z_is_5_4 (pc := 38) cx dX7_told_38 ?_
      have J40 : ∀ (n f : Nat) (σ : hS), f + n = (S 23 0).toNat → mat (gdA Γ) ad σ h (mw S 0 0 e) → mFr ad h σ0 σ → G Γ σ 0 0 40 [some (.ref h), some (.int (iI (i))), some (.int (iI (u))), some (.int (iI (cntN f fun f => decide (S 24 (f : Int) = i)))), some (.int (iI ((f : Int))))] [] := by
        intro n
        induction n using Nat.strongRecOn with
        | _ n ih =>
        intro f σ hfn hm hF
        refine z_il_5_4 (pc := 40) cx dX7_told_40 ?_
        refine z_al_5_0 (pc := 42) cx dX7_told_42 ?_
        refine m_get (pc := 43) cx hm fl_X7_138 rfl dX7_told_43 ?_
        refine z_icmp_ge (pc := 46) (tgt := 74) cx (by show zR (f : Int) (S 23 0); omega) (by decide) dX7_told_46 (fun c_46 => ?_) (fun c_46 => ?_)
        · skip
          obtain rfl : f = (S 23 0).toNat := by have c_46' : S 23 0 ≤ (f : Int) := c_46; omega
          refine z_il_5_2 (pc := 74) cx dX7_told_74 ?_
          rcases (show u = 0 ∨ u = 1 ∨ u = 2 ∨ u = 3 ∨ u = 4 ∨ 4 < u by omega) with rfl | rfl | rfl | rfl | rfl | hu4
          · refine z_tswIn (pc := 75) (a := 0) (off := 33) (tgt := 108) cx dX7_told_75 (by decide) (by decide) rfl (by decide) ?_
            refine z_il_5_3 (pc := 108) cx dX7_told_108 ?_
            exact z_ret (pc := 109) cx rx (by decide) (by decide) dX7_told_109 ⟨by rw [toldR, if_pos he0]; rfl, by rw [← he]; exact hm, hF⟩
          · refine z_tswIn (pc := 75) (a := 1) (off := 35) (tgt := 110) cx dX7_told_75 (by decide) (by decide) rfl (by decide) ?_
            refine z_al_5_0 (pc := 110) cx dX7_told_110 ?_
            refine m_get (pc := 111) cx hm fl_X7_56 rfl dX7_told_111 ?_
            refine z_il_5_1 (pc := 114) cx dX7_told_114 ?_
            refine m_iald (pc := 115) (k := 19) (L := 5) cx hm ⟨rfl, rfl, by decide, by decide⟩ dX7_told_115 (by omega) ?_
            exact z_ret (pc := 116) cx rx (by decide) (by decide) dX7_told_116 ⟨by rw [toldR, if_pos he0]; rfl, by rw [← he]; exact hm, hF⟩
          · refine z_tswIn (pc := 75) (a := 2) (off := 42) (tgt := 117) cx dX7_told_75 (by decide) (by decide) rfl (by decide) ?_
            refine z_al_5_0 (pc := 117) cx dX7_told_117 ?_
            refine m_get (pc := 118) cx hm fl_X7_59 rfl dX7_told_118 ?_
            refine z_il_5_1 (pc := 121) cx dX7_told_121 ?_
            refine m_iald (pc := 122) (k := 20) (L := 5) cx hm ⟨rfl, rfl, by decide, by decide⟩ dX7_told_122 (by omega) ?_
            exact z_ret (pc := 123) cx rx (by decide) (by decide) dX7_told_123 ⟨by rw [toldR, if_pos he0]; rfl, by rw [← he]; exact hm, hF⟩
          · refine z_tswIn (pc := 75) (a := 3) (off := 49) (tgt := 124) cx dX7_told_75 (by decide) (by decide) rfl (by decide) ?_
            refine z_al_5_0 (pc := 124) cx dX7_told_124 ?_
            refine m_get (pc := 125) cx hm fl_X7_62 rfl dX7_told_125 ?_
            refine z_il_5_1 (pc := 128) cx dX7_told_128 ?_
            refine m_iald (pc := 129) (k := 21) (L := 5) cx hm ⟨rfl, rfl, by decide, by decide⟩ dX7_told_129 (by omega) ?_
            exact z_ret (pc := 130) cx rx (by decide) (by decide) dX7_told_130 ⟨by rw [toldR, if_pos he0]; rfl, by rw [← he]; exact hm, hF⟩
          · refine z_tswIn (pc := 75) (a := 4) (off := 56) (tgt := 131) cx dX7_told_75 (by decide) (by decide) rfl (by decide) ?_
            refine z_al_5_0 (pc := 131) cx dX7_told_131 ?_
            refine m_get (pc := 132) cx hm fl_X7_65 rfl dX7_told_132 ?_
            refine z_il_5_1 (pc := 135) cx dX7_told_135 ?_
            refine m_iald (pc := 136) (k := 22) (L := 5) cx hm ⟨rfl, rfl, by decide, by decide⟩ dX7_told_136 (by omega) ?_
            exact z_ret (pc := 137) cx rx (by decide) (by decide) dX7_told_137 ⟨by rw [toldR, if_pos he0]; rfl, by rw [← he]; exact hm, hF⟩
          · refine z_tswOut (pc := 75) (tgt := 138) cx dX7_told_75 (by omega) (by omega) (by decide) ?_
            refine z_al_5_0 (pc := 138) cx dX7_told_138 ?_
            refine m_get (pc := 139) cx hm fl_X7_53 rfl dX7_told_139 ?_
            refine z_il_5_1 (pc := 142) cx dX7_told_142 ?_
            refine m_zald (pc := 143) (k := 18) (L := 5) cx hm ⟨rfl, rfl, by decide, by decide⟩ dX7_told_143 (by omega) ?_
            refine z_if_eq (pc := 144) (tgt := 151) cx (by show -2147483648 ≤ S 18 i ∧ S 18 i ≤ 2147483647; have := hb i (by omega) (by omega); omega) (by decide) dX7_told_144 (fun c_144 => ?_) (fun c_144 => ?_)
            · skip
              refine z_iconst (pc := 151) cx dX7_told_151 ?_
              exact z_ret (pc := 152) cx rx (by decide) (by decide) dX7_told_152 ⟨(by
                rw [toldR, if_pos he0, if_neg (by omega), if_neg (by omega), if_neg (by omega), if_neg (by omega), if_neg (by omega)]
                first
                | rw [if_pos (show S 18 i = 0 from c_144)]
                | rw [if_neg (show ¬ S 18 i = 0 from c_144)]), by rw [← he]; exact hm, hF⟩
            · skip
              refine z_iconst (pc := 147) cx dX7_told_147 ?_
              refine g_goto (pc := 148) (tgt := 152) cx (by decide) dX7_told_148 ?_
              exact z_ret (pc := 152) cx rx (by decide) (by decide) dX7_told_152 ⟨(by
                rw [toldR, if_pos he0, if_neg (by omega), if_neg (by omega), if_neg (by omega), if_neg (by omega), if_neg (by omega)]
                first
                | rw [if_pos (show S 18 i = 0 from c_144)]
                | rw [if_neg (show ¬ S 18 i = 0 from c_144)]), by rw [← he]; exact hm, hF⟩
        · skip
          have c_46' : (f : Int) < S 23 0 := c_46
          refine z_al_5_0 (pc := 49) cx dX7_told_49 ?_
          have J67 : ∀ (v : Int) (σ : hS), v = cntN (f + 1) (fun f => decide (S 24 (f : Int) = i)) → mat (gdA Γ) ad σ h (mw S 0 0 e) → mFr ad h σ0 σ → G Γ σ 0 0 67 [some (.ref h), some (.int (iI (i))), some (.int (iI (u))), some (.int (iI (cntN f fun f => decide (S 24 (f : Int) = i)))), some (.int (iI ((f : Int))))] [.int (iI v)] := by
            intro v σ hv hm hF
            subst hv
            refine z_is_5_3 (pc := 67) cx dX7_told_67 ?_
            refine z_ii_5_4 (pc := 68) cx dX7_told_68 ?_
            refine g_goto (pc := 71) (tgt := 40) cx (by decide) dX7_told_71 ?_
            exact ih (n - 1) (by omega) (f + 1) σ (by omega) hm hF
          refine m_get (pc := 50) cx hm fl_X7_68 rfl dX7_told_50 ?_
          refine z_il_5_4 (pc := 53) cx dX7_told_53 ?_
          refine m_iald (pc := 55) (k := 24) (L := 64) cx hm ⟨rfl, rfl, by decide, by decide⟩ dX7_told_55 (by omega) ?_
          refine z_il_5_1 (pc := 56) cx dX7_told_56 ?_
          refine z_icmp_ne (pc := 57) (tgt := 66) cx (by show zR (S 24 (f : Int)) i; have := hff (f : Int) (by omega) (by omega); omega) (by decide) dX7_told_57 (fun c_57 => ?_) (fun c_57 => ?_)
          · skip
            refine z_il_5_3 (pc := 66) cx dX7_told_66 ?_
            exact J67 _ _ (by rw [cntN, decide_eq_false (p := S 24 (f : Int) = i) c_57]; rfl) hm hF
          · skip
            refine z_il_5_3 (pc := 60) cx dX7_told_60 ?_
            refine z_iconst (pc := 61) cx dX7_told_61 ?_
            refine z_iadd (pc := 62) cx dX7_told_62 ?_
            refine g_goto (pc := 63) (tgt := 67) cx (by decide) dX7_told_63 ?_
            exact J67 _ _ (by rw [cntN, decide_eq_true (p := S 24 (f : Int) = i) c_57]; rfl) hm hF
      exact J40 (S 23 0).toNat 0 σ (by omega) hm hF
    · skip
      refine z_iconst (pc := 33) cx dX7_told_33 ?_
      rw [mw_s] at c_30
      exact z_ret (pc := 34) cx rx (by decide) (by decide) dX7_told_34 ⟨by rw [toldR, ← he, if_neg (by omega)], by rw [← he]; exact hm, hF⟩
  refine z_al_5_0 (pc := 0) cx dX7_told_0 ?_
  refine z_al_5_0 (pc := 1) cx dX7_told_1 ?_
  refine z_il_5_1 (pc := 2) cx dX7_told_2 ?_
  refine m_callV (pc := 3) cx lk_X7_186 (c_X7_isTalker hm hi hs) hm hF rfl gy_X7_isTalker ⟨⟨by decide, by decide⟩, by decide, by decide⟩ ⟨rfl, rfl⟩ rfl rfl (Nat.le_of_ble_eq_true rfl) dX7_told_3 ?_
  intro σ hm hF
  show G Γ _ _ _ 6 _ (.int (iI _) :: _)
  refine z_if_eq (pc := 6) (tgt := 18) cx (by have := bz_r (isTk S i); omega) (by decide) dX7_told_6 (fun c_6 => ?_) (fun c_6 => ?_)
  · skip
    refine z_iconst (pc := 18) cx dX7_told_18 ?_
    refine g_goto (pc := 19) (tgt := 23) cx (by decide) dX7_told_19 ?_
    exact J23 _ _ (by
      rw [thTo]
      first
      | rw [if_pos (Or.inl (bz_0.mp c_6))]
      | rw [if_pos (Or.inr (by omega))]) hm hF
  · skip
    refine z_il_5_2 (pc := 9) cx dX7_told_9 ?_
    refine z_if_lt (pc := 10) (tgt := 18) cx (by omega) (by decide) dX7_told_10 (fun c_10 => ?_) (fun c_10 => ?_)
    · skip
      refine z_iconst (pc := 18) cx dX7_told_18 ?_
      refine g_goto (pc := 19) (tgt := 23) cx (by decide) dX7_told_19 ?_
      exact J23 _ _ (by
        rw [thTo]
        first
        | rw [if_pos (Or.inl (bz_0.mp c_6))]
        | rw [if_pos (Or.inr (by omega))]) hm hF
    · skip
      refine z_il_5_2 (pc := 13) cx dX7_told_13 ?_
      refine z_iconst (pc := 14) cx dX7_told_14 ?_
      refine z_icmp_le (pc := 15) (tgt := 22) cx (by omega) (by decide) dX7_told_15 (fun c_15 => ?_) (fun c_15 => ?_)
      · skip
        refine z_iconst (pc := 22) cx dX7_told_22 ?_
        exact J23 _ _ (by rw [thTo, if_neg (by rw [bz_n0.mp c_6]; simp; omega)]) hm hF
      · skip
        refine z_iconst (pc := 18) cx dX7_told_18 ?_
        refine g_goto (pc := 19) (tgt := 23) cx (by decide) dX7_told_19 ?_
        exact J23 _ _ (by
          rw [thTo]
          first
          | rw [if_pos (Or.inl (bz_0.mp c_6))]
          | rw [if_pos (Or.inr (by omega))]) hm hF

set_option maxRecDepth 100000 in
set_option maxHeartbeats 4000000 in
theorem c_X7_link {lc : Launch} {dA : Nat → ClassId} {ad : Nat → Nat} {σ0 : hS} {h : Nat} {S : mS} (hm : mat dA ad σ0 h S) {w u : Int} (hw : -2147483648 ≤ w ∧ w ≤ 2147483647) (hu : -2147483648 ≤ u ∧ u ≤ 2147483647) (hn : 0 ≤ S 23 0 ∧ S 23 0 ≤ 64) (hff : ∀ f, 0 ≤ f → f < S 23 0 → mFm S f) (ht : mTm S) (hb : ∀ l, 0 ≤ l → l < 6 → (0 ≤ S 29 l ∧ S 29 l ≤ 8) ∧ (0 ≤ S 26 l ∧ S 26 l ≤ 1)) : gM lc dA yX7_link (.code yX7_link cX7_link 3 (some .int)) { frames := 3, cells := 0, slots := 0, locals := 71 } σ0 [.ref h, .int (iI w), .int (iI u)] (mP dA ad h σ0 (some (.int (iI (linkR S w u)))) (mw S 0 0 (thL w u))) nX := by
  refine gM_body (by decide +kernel) (by simp [Value.category]) (Nat.le_of_ble_eq_true rfl) (fun Γ hdA cx rx nx => ?_)
  subst hdA
  have cx : CX lc Γ cX7_link RX7 3 { frames := 3, cells := 0, slots := 0, locals := 71 } := cx
  show G Γ σ0 0 0 0 [some (.ref h), some (.int (iI w)), some (.int (iI u))] []
  have hF : mFr ad h σ0 σ0 := mFr.rf
  have J22 : ∀ (e : Int) (σ : hS), e = thL w u → mat (gdA Γ) ad σ h S → mFr ad h σ0 σ → G Γ σ 0 0 22 [some (.ref h), some (.int (iI (w))), some (.int (iI (u)))] [.int (iI e), .ref h] := by
    intro e σ he hm hF
    have her : 0 ≤ e ∧ e ≤ 1 := by rw [he]; unfold thL; (repeat' split) <;> omega
    refine m_put (pc := 22) cx hm hF fl_X7_89 ⟨rfl, rfl, by decide, rfl⟩ (mFs_0 _ _ _) dX7_link_22 ?_
    intro σ hm hF
    refine z_al_3_0 (pc := 25) cx dX7_link_25 ?_
    refine m_get (pc := 26) cx hm fl_X7_89 rfl dX7_link_26 ?_
    refine z_if_le (pc := 29) (tgt := 34) cx (by rw [mw_s]; omega) (by decide) dX7_link_29 (fun c_29 => ?_) (fun c_29 => ?_)
    · skip
      rw [mw_s] at c_29
      have hz : (0 ≤ w ∧ w < 6) ∧ (0 ≤ u ∧ u ≤ 3) := by unfold thL at he; split at he <;> omega
      have hbw := hb w (by omega) (by omega)
      have he0 : thL w u = 0 := by omega
      refine z_il_3_2 (pc := 34) cx dX7_link_34 ?_
      refine z_if_ne (pc := 35) (tgt := 47) cx (by omega) (by decide) dX7_link_35 (fun c_35 => ?_) (fun c_35 => ?_)
      · skip
        refine z_il_3_2 (pc := 47) cx dX7_link_47 ?_
        refine z_iconst (pc := 48) cx dX7_link_48 ?_
        refine z_icmp_ne (pc := 49) (tgt := 61) cx (by omega) (by decide) dX7_link_49 (fun c_49 => ?_) (fun c_49 => ?_)
        · skip
          refine z_il_3_2 (pc := 61) cx dX7_link_61 ?_
          refine z_iconst (pc := 62) cx dX7_link_62 ?_
          refine z_icmp_ne (pc := 63) (tgt := 74) cx (by omega) (by decide) dX7_link_63 (fun c_63 => ?_) (fun c_63 => ?_)
          · skip
            refine z_al_3_0 (pc := 74) cx dX7_link_74 ?_
            refine m_get (pc := 75) cx hm fl_X7_74 rfl dX7_link_75 ?_
            refine z_il_3_1 (pc := 78) cx dX7_link_78 ?_
            refine m_zald (pc := 79) (k := 26) (L := 6) cx hm ⟨rfl, rfl, by decide, by decide⟩ dX7_link_79 (by omega) ?_
            refine z_if_eq (pc := 80) (tgt := 87) cx (by show -2147483648 ≤ S 26 w ∧ S 26 w ≤ 2147483647; omega) (by decide) dX7_link_80 (fun c_80 => ?_) (fun c_80 => ?_)
            · skip
              refine z_iconst (pc := 87) cx dX7_link_87 ?_
              exact z_ret (pc := 88) cx rx (by decide) (by decide) dX7_link_88 ⟨(by
                rw [linkR, if_pos he0]
                first
                | (rw [if_pos c_35]; rfl)
                | (rw [if_neg c_35, if_pos c_49]; rfl)
                | (rw [if_neg c_35, if_neg c_49, if_pos c_63, onF_0])
                | (rw [if_neg c_35, if_neg c_49, if_neg c_63, if_pos (show S 26 w = 0 from c_80)]; done)
                | (rw [if_neg c_35, if_neg c_49, if_neg c_63, if_neg (show ¬ S 26 w = 0 from c_80)]; done)), by rw [← he]; exact hm, hF⟩
            · skip
              refine z_iconst (pc := 83) cx dX7_link_83 ?_
              refine g_goto (pc := 84) (tgt := 88) cx (by decide) dX7_link_84 ?_
              exact z_ret (pc := 88) cx rx (by decide) (by decide) dX7_link_88 ⟨(by
                rw [linkR, if_pos he0]
                first
                | (rw [if_pos c_35]; rfl)
                | (rw [if_neg c_35, if_pos c_49]; rfl)
                | (rw [if_neg c_35, if_neg c_49, if_pos c_63, onF_0])
                | (rw [if_neg c_35, if_neg c_49, if_neg c_63, if_pos (show S 26 w = 0 from c_80)]; done)
                | (rw [if_neg c_35, if_neg c_49, if_neg c_63, if_neg (show ¬ S 26 w = 0 from c_80)]; done)), by rw [← he]; exact hm, hF⟩
          · skip
            refine z_al_3_0 (pc := 66) cx dX7_link_66 ?_
            refine z_il_3_1 (pc := 67) cx dX7_link_67 ?_
            refine m_callV (pc := 68) cx lk_X7_192 (c_X7_on hm (by omega) hn hff ht (hb w (by omega) (by omega)).1) hm hF rfl gy_X7_on ⟨⟨by decide, by decide⟩, by decide, by decide⟩ ⟨rfl, rfl⟩ rfl rfl (Nat.le_of_ble_eq_true rfl) dX7_link_68 ?_
            intro σ hm hF
            show G Γ _ _ _ 71 _ (.int (iI _) :: _)
            refine g_goto (pc := 71) (tgt := 88) cx (by decide) dX7_link_71 ?_
            exact z_ret (pc := 88) cx rx (by decide) (by decide) dX7_link_88 ⟨(by
              rw [linkR, if_pos he0]
              first
              | (rw [if_pos c_35]; rfl)
              | (rw [if_neg c_35, if_pos c_49]; rfl)
              | (rw [if_neg c_35, if_neg c_49, if_pos c_63, onF_0])
              | (rw [if_neg c_35, if_neg c_49, if_neg c_63, if_pos (show S 26 w = 0 from c_80)]; done)
              | (rw [if_neg c_35, if_neg c_49, if_neg c_63, if_neg (show ¬ S 26 w = 0 from c_80)]; done)), by rw [← he]; exact hm, hF⟩
        · skip
          refine z_al_3_0 (pc := 52) cx dX7_link_52 ?_
          refine m_get (pc := 53) cx hm fl_X7_86 rfl dX7_link_53 ?_
          refine z_il_3_1 (pc := 56) cx dX7_link_56 ?_
          refine m_iald (pc := 57) (k := 30) (L := 6) cx hm ⟨rfl, rfl, by decide, by decide⟩ dX7_link_57 (by omega) ?_
          refine g_goto (pc := 58) (tgt := 88) cx (by decide) dX7_link_58 ?_
          exact z_ret (pc := 88) cx rx (by decide) (by decide) dX7_link_88 ⟨(by
            rw [linkR, if_pos he0]
            first
            | (rw [if_pos c_35]; rfl)
            | (rw [if_neg c_35, if_pos c_49]; rfl)
            | (rw [if_neg c_35, if_neg c_49, if_pos c_63, onF_0])
            | (rw [if_neg c_35, if_neg c_49, if_neg c_63, if_pos (show S 26 w = 0 from c_80)]; done)
            | (rw [if_neg c_35, if_neg c_49, if_neg c_63, if_neg (show ¬ S 26 w = 0 from c_80)]; done)), by rw [← he]; exact hm, hF⟩
      · skip
        refine z_al_3_0 (pc := 38) cx dX7_link_38 ?_
        refine m_get (pc := 39) cx hm fl_X7_77 rfl dX7_link_39 ?_
        refine z_il_3_1 (pc := 42) cx dX7_link_42 ?_
        refine m_iald (pc := 43) (k := 27) (L := 6) cx hm ⟨rfl, rfl, by decide, by decide⟩ dX7_link_43 (by omega) ?_
        refine g_goto (pc := 44) (tgt := 88) cx (by decide) dX7_link_44 ?_
        exact z_ret (pc := 88) cx rx (by decide) (by decide) dX7_link_88 ⟨(by
          rw [linkR, if_pos he0]
          first
          | (rw [if_pos c_35]; rfl)
          | (rw [if_neg c_35, if_pos c_49]; rfl)
          | (rw [if_neg c_35, if_neg c_49, if_pos c_63, onF_0])
          | (rw [if_neg c_35, if_neg c_49, if_neg c_63, if_pos (show S 26 w = 0 from c_80)]; done)
          | (rw [if_neg c_35, if_neg c_49, if_neg c_63, if_neg (show ¬ S 26 w = 0 from c_80)]; done)), by rw [← he]; exact hm, hF⟩
    · skip
      refine z_iconst (pc := 32) cx dX7_link_32 ?_
      rw [mw_s] at c_29
      exact z_ret (pc := 33) cx rx (by decide) (by decide) dX7_link_33 ⟨by rw [linkR, ← he, if_neg (by omega)], by rw [← he]; exact hm, hF⟩
  refine z_al_3_0 (pc := 0) cx dX7_link_0 ?_
  refine z_il_3_1 (pc := 1) cx dX7_link_1 ?_
  refine m_callS (pc := 2) cx lk_X7_93 (c_X7_isLink (by omega)) gy_X7_isLink ⟨⟨by decide, by decide⟩, by decide, by decide⟩ ⟨rfl, rfl⟩ rfl rfl (Nat.le_of_ble_eq_true rfl) dX7_link_2 ?_
  show G Γ _ _ _ 5 _ (.int (iI _) :: _)
  refine z_if_eq (pc := 5) (tgt := 17) cx (by have := bz_r (decide (0 ≤ w ∧ w < 6)); omega) (by decide) dX7_link_5 (fun c_5 => ?_) (fun c_5 => ?_)
  · skip
    refine z_iconst (pc := 17) cx dX7_link_17 ?_
    refine g_goto (pc := 18) (tgt := 22) cx (by decide) dX7_link_18 ?_
    exact J22 _ _ (by
      try simp only [bzd_0, bzd_n0] at c_5
      unfold thL; split <;> omega) hm hF
  · skip
    refine z_il_3_2 (pc := 8) cx dX7_link_8 ?_
    refine z_if_lt (pc := 9) (tgt := 17) cx (by omega) (by decide) dX7_link_9 (fun c_9 => ?_) (fun c_9 => ?_)
    · skip
      refine z_iconst (pc := 17) cx dX7_link_17 ?_
      refine g_goto (pc := 18) (tgt := 22) cx (by decide) dX7_link_18 ?_
      exact J22 _ _ (by
        try simp only [bzd_0, bzd_n0] at c_5
        unfold thL; split <;> omega) hm hF
    · skip
      refine z_il_3_2 (pc := 12) cx dX7_link_12 ?_
      refine z_iconst (pc := 13) cx dX7_link_13 ?_
      refine z_icmp_le (pc := 14) (tgt := 21) cx (by omega) (by decide) dX7_link_14 (fun c_14 => ?_) (fun c_14 => ?_)
      · skip
        refine z_iconst (pc := 21) cx dX7_link_21 ?_
        exact J22 _ _ (by
          try simp only [bzd_0, bzd_n0] at c_5
          unfold thL; split <;> omega) hm hF
      · skip
        refine z_iconst (pc := 17) cx dX7_link_17 ?_
        refine g_goto (pc := 18) (tgt := 22) cx (by decide) dX7_link_18 ?_
        exact J22 _ _ (by
          try simp only [bzd_0, bzd_n0] at c_5
          unfold thL; split <;> omega) hm hF

set_option maxRecDepth 100000 in
set_option maxHeartbeats 4000000 in
theorem c_X7_streams {lc : Launch} {dA : Nat → ClassId} {ad : Nat → Nat} {σ0 : hS} {h : Nat} {S : mS} (hm : mat dA ad σ0 h S) {u : Int} (hu : -2147483648 ≤ u ∧ u ≤ 2147483647) : gM lc dA yX7_streams (.code yX7_streams cX7_streams 2 (some .int)) { frames := 0, cells := 0, slots := 0, locals := 0 } σ0 [.ref h, .int (iI u)] (mP dA ad h σ0 (some (.int (iI (strR S u)))) (mw S 0 0 (thSt u))) nX := by
  refine gM_body (by decide +kernel) (by simp [Value.category]) (Nat.le_of_ble_eq_true rfl) (fun Γ hdA cx rx nx => ?_)
  subst hdA
  have cx : CX lc Γ cX7_streams RX7 2 { frames := 0, cells := 0, slots := 0, locals := 0 } := cx
  show G Γ σ0 0 0 0 [some (.ref h), some (.int (iI u))] []
  have hF : mFr ad h σ0 σ0 := mFr.rf
  have J15 : ∀ (e : Int) (σ : hS), e = thSt u → mat (gdA Γ) ad σ h S → mFr ad h σ0 σ → G Γ σ 0 0 15 [some (.ref h), some (.int (iI (u)))] [.int (iI e), .ref h] := by
    intro e σ he hm hF
    have her : 0 ≤ e ∧ e ≤ 3 := by rw [he]; unfold thSt; (repeat' split) <;> omega
    refine m_put (pc := 15) cx hm hF fl_X7_89 ⟨rfl, rfl, by decide, rfl⟩ (mFs_0 _ _ _) dX7_streams_15 ?_
    intro σ hm hF
    refine z_al_2_0 (pc := 18) cx dX7_streams_18 ?_
    refine m_get (pc := 19) cx hm fl_X7_89 rfl dX7_streams_19 ?_
    refine z_if_le (pc := 22) (tgt := 27) cx (by rw [mw_s]; omega) (by decide) dX7_streams_22 (fun c_22 => ?_) (fun c_22 => ?_)
    · skip
      rw [mw_s] at c_22
      have he0 : thSt u = 0 := by omega
      refine z_il_2_1 (pc := 27) cx dX7_streams_27 ?_
      refine z_if_ne (pc := 28) (tgt := 38) cx (by omega) (by decide) dX7_streams_28 (fun c_28 => ?_) (fun c_28 => ?_)
      · skip
        refine z_il_2_1 (pc := 38) cx dX7_streams_38 ?_
        refine z_iconst (pc := 39) cx dX7_streams_39 ?_
        refine z_icmp_ne (pc := 40) (tgt := 52) cx (by omega) (by decide) dX7_streams_40 (fun c_40 => ?_) (fun c_40 => ?_)
        · skip
          refine z_il_2_1 (pc := 52) cx dX7_streams_52 ?_
          refine z_iconst (pc := 53) cx dX7_streams_53 ?_
          refine z_icmp_ne (pc := 54) (tgt := 66) cx (by omega) (by decide) dX7_streams_54 (fun c_54 => ?_) (fun c_54 => ?_)
          · skip
            refine z_al_2_0 (pc := 66) cx dX7_streams_66 ?_
            refine m_get (pc := 67) cx hm fl_X7_25 rfl dX7_streams_67 ?_
            refine z_iconst (pc := 70) cx dX7_streams_70 ?_
            refine m_iald (pc := 71) (k := 7) (L := 3) cx hm ⟨rfl, rfl, by decide, by decide⟩ dX7_streams_71 (by omega) ?_
            exact z_ret (pc := 72) cx rx (by decide) (by decide) dX7_streams_72 ⟨(by
              rw [strR, if_pos he0]
              first
              | (rw [if_pos c_28]; rfl)
              | (rw [if_neg c_28, if_pos c_40]; rfl)
              | (rw [if_neg c_28, if_neg c_40, if_pos c_54]; rfl)
              | (rw [if_neg c_28, if_neg c_40, if_neg c_54]; rfl)), by rw [← he]; exact hm, hF⟩
          · skip
            refine z_al_2_0 (pc := 57) cx dX7_streams_57 ?_
            refine m_get (pc := 58) cx hm fl_X7_25 rfl dX7_streams_58 ?_
            refine z_iconst (pc := 61) cx dX7_streams_61 ?_
            refine m_iald (pc := 62) (k := 7) (L := 3) cx hm ⟨rfl, rfl, by decide, by decide⟩ dX7_streams_62 (by omega) ?_
            refine g_goto (pc := 63) (tgt := 72) cx (by decide) dX7_streams_63 ?_
            exact z_ret (pc := 72) cx rx (by decide) (by decide) dX7_streams_72 ⟨(by
              rw [strR, if_pos he0]
              first
              | (rw [if_pos c_28]; rfl)
              | (rw [if_neg c_28, if_pos c_40]; rfl)
              | (rw [if_neg c_28, if_neg c_40, if_pos c_54]; rfl)
              | (rw [if_neg c_28, if_neg c_40, if_neg c_54]; rfl)), by rw [← he]; exact hm, hF⟩
        · skip
          refine z_al_2_0 (pc := 43) cx dX7_streams_43 ?_
          refine m_get (pc := 44) cx hm fl_X7_25 rfl dX7_streams_44 ?_
          refine z_iconst (pc := 47) cx dX7_streams_47 ?_
          refine m_iald (pc := 48) (k := 7) (L := 3) cx hm ⟨rfl, rfl, by decide, by decide⟩ dX7_streams_48 (by omega) ?_
          refine g_goto (pc := 49) (tgt := 72) cx (by decide) dX7_streams_49 ?_
          exact z_ret (pc := 72) cx rx (by decide) (by decide) dX7_streams_72 ⟨(by
            rw [strR, if_pos he0]
            first
            | (rw [if_pos c_28]; rfl)
            | (rw [if_neg c_28, if_pos c_40]; rfl)
            | (rw [if_neg c_28, if_neg c_40, if_pos c_54]; rfl)
            | (rw [if_neg c_28, if_neg c_40, if_neg c_54]; rfl)), by rw [← he]; exact hm, hF⟩
      · skip
        refine z_al_2_0 (pc := 31) cx dX7_streams_31 ?_
        refine m_get (pc := 32) cx hm fl_X7_97 rfl dX7_streams_32 ?_
        refine g_goto (pc := 35) (tgt := 72) cx (by decide) dX7_streams_35 ?_
        exact z_ret (pc := 72) cx rx (by decide) (by decide) dX7_streams_72 ⟨(by
          rw [strR, if_pos he0]
          first
          | (rw [if_pos c_28]; rfl)
          | (rw [if_neg c_28, if_pos c_40]; rfl)
          | (rw [if_neg c_28, if_neg c_40, if_pos c_54]; rfl)
          | (rw [if_neg c_28, if_neg c_40, if_neg c_54]; rfl)), by rw [← he]; exact hm, hF⟩
    · skip
      refine z_iconst (pc := 25) cx dX7_streams_25 ?_
      rw [mw_s] at c_22
      exact z_ret (pc := 26) cx rx (by decide) (by decide) dX7_streams_26 ⟨by rw [strR, ← he, if_neg (by omega)], by rw [← he]; exact hm, hF⟩
  refine z_al_2_0 (pc := 0) cx dX7_streams_0 ?_
  refine z_il_2_1 (pc := 1) cx dX7_streams_1 ?_
  refine z_if_lt (pc := 2) (tgt := 10) cx (by omega) (by decide) dX7_streams_2 (fun c_2 => ?_) (fun c_2 => ?_)
  · skip
    refine z_iconst (pc := 10) cx dX7_streams_10 ?_
    refine g_goto (pc := 11) (tgt := 15) cx (by decide) dX7_streams_11 ?_
    exact J15 _ _ (by unfold thSt; (repeat' split) <;> omega) hm hF
  · skip
    refine z_il_2_1 (pc := 5) cx dX7_streams_5 ?_
    refine z_iconst (pc := 6) cx dX7_streams_6 ?_
    refine z_icmp_le (pc := 7) (tgt := 14) cx (by omega) (by decide) dX7_streams_7 (fun c_7 => ?_) (fun c_7 => ?_)
    · skip
      refine z_iconst (pc := 14) cx dX7_streams_14 ?_
      exact J15 _ _ (by unfold thSt; (repeat' split) <;> omega) hm hF
    · skip
      refine z_iconst (pc := 10) cx dX7_streams_10 ?_
      refine g_goto (pc := 11) (tgt := 15) cx (by decide) dX7_streams_11 ?_
      exact J15 _ _ (by unfold thSt; (repeat' split) <;> omega) hm hF
