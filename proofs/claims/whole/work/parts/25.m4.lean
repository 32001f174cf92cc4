/-! contracts (walks laid by program) -/
set_option maxRecDepth 100000 in
set_option maxHeartbeats 4000000 in
theorem c_X7_tries {lc : Launch} {dA : Nat → ClassId} {ad : Nat → Nat} {σ0 : hS} {h : Nat} {S : mS} (hm : mat dA ad σ0 h S) : gM lc dA yX7_tries (.code yX7_tries cX7_tries 1 (some .int)) { frames := 0, cells := 0, slots := 0, locals := 0 } σ0 [.ref h] (mP dA ad h σ0 (some (.int (iI (S 13 0)))) (mw S 0 0 0)) nX := by
  refine gM_body (by decide +kernel) (by simp [Value.category]) (Nat.le_of_ble_eq_true rfl) (fun Γ hdA cx rx nx => ?_)
  subst hdA
  have cx : CX lc Γ cX7_tries RX7 1 { frames := 0, cells := 0, slots := 0, locals := 0 } := cx
  show G Γ σ0 0 0 0 [some (.ref h)] []
  have hF : mFr ad h σ0 σ0 := mFr.rf
  refine z_al_1_0 (pc := 0) cx dX7_tries_0 ?_
  refine z_iconst (pc := 1) cx dX7_tries_1 ?_
  refine m_put (pc := 2) cx hm hF fl_X7_89 ⟨rfl, rfl, by decide, rfl⟩ (mFs_0 _ _ _) dX7_tries_2 ?_
  intro σ hm hF
  refine z_al_1_0 (pc := 5) cx dX7_tries_5 ?_
  refine m_get (pc := 6) cx hm fl_X7_118 rfl dX7_tries_6 ?_
  exact z_ret (pc := 9) cx rx (by decide) (by decide) dX7_tries_9 ⟨by rw [mw_k (by decide)], hm, hF⟩

set_option maxRecDepth 100000 in
set_option maxHeartbeats 4000000 in
theorem c_X7_clear {lc : Launch} {dA : Nat → ClassId} {ad : Nat → Nat} {σ0 : hS} {h : Nat} {S : mS} (hm : mat dA ad σ0 h S) : gM lc dA yX7_clear (.code yX7_clear cX7_clear 1 none) { frames := 0, cells := 0, slots := 0, locals := 0 } σ0 [.ref h] (mP dA ad h σ0 none (mw (mw S 0 0 0) 2 0 0)) nX := by
  refine gM_body (by decide +kernel) (by simp [Value.category]) (Nat.le_of_ble_eq_true rfl) (fun Γ hdA cx rx nx => ?_)
  subst hdA
  have cx : CX lc Γ cX7_clear RX7 1 { frames := 0, cells := 0, slots := 0, locals := 0 } := cx
  show G Γ σ0 0 0 0 [some (.ref h)] []
  have hF : mFr ad h σ0 σ0 := mFr.rf
  refine z_al_1_0 (pc := 0) cx dX7_clear_0 ?_
  refine z_iconst (pc := 1) cx dX7_clear_1 ?_
  refine m_put (pc := 2) cx hm hF fl_X7_89 ⟨rfl, rfl, by decide, rfl⟩ (mFs_0 _ _ _) dX7_clear_2 ?_
  intro σ hm hF
  refine z_al_1_0 (pc := 5) cx dX7_clear_5 ?_
  refine z_iconst (pc := 6) cx dX7_clear_6 ?_
  refine m_put (pc := 7) cx hm hF fl_X7_97 ⟨rfl, rfl, by decide, rfl⟩ (mFs_2 _ _ _) dX7_clear_7 ?_
  intro σ hm hF
  exact g_return (pc := 10) cx rx (by decide) (by decide) dX7_clear_10 ⟨rfl, hm, hF⟩

set_option maxRecDepth 100000 in
set_option maxHeartbeats 4000000 in
theorem c_X7_delay {lc : Launch} {dA : Nat → ClassId} {ad : Nat → Nat} {σ0 : hS} {h : Nat} {S : mS} (hm : mat dA ad σ0 h S) {w t : Int} (hw : -2147483648 ≤ w ∧ w ≤ 2147483647) (ht : -2147483648 ≤ t ∧ t ≤ 2147483647) : gM lc dA yX7_delay (.code yX7_delay cX7_delay 3 none) { frames := 1, cells := 0, slots := 0, locals := 20 } σ0 [.ref h, .int (iI w), .int (iI t)] (mP dA ad h σ0 none (delS S w t)) nX := by
  refine gM_body (by decide +kernel) (by simp [Value.category]) (Nat.le_of_ble_eq_true rfl) (fun Γ hdA cx rx nx => ?_)
  subst hdA
  have cx : CX lc Γ cX7_delay RX7 3 { frames := 1, cells := 0, slots := 0, locals := 20 } := cx
  show G Γ σ0 0 0 0 [some (.ref h), some (.int (iI w)), some (.int (iI t))] []
  have hF : mFr ad h σ0 σ0 := mFr.rf
  have J27 : ∀ (e : Int) (σ : hS), e = thD w t → mat (gdA Γ) ad σ h S → mFr ad h σ0 σ → G Γ σ 0 0 27 [some (.ref h), some (.int (iI (w))), some (.int (iI (t)))] [.int (iI e), .ref h] := by
    intro e σ he hm hF
    have her : 0 ≤ e ∧ e ≤ 3 := by rw [he]; unfold thD; (repeat' split) <;> omega
    refine m_put (pc := 27) cx hm hF fl_X7_89 ⟨rfl, rfl, by decide, rfl⟩ (mFs_0 _ _ _) dX7_delay_27 ?_
    intro σ hm hF
    refine z_al_3_0 (pc := 30) cx dX7_delay_30 ?_
    refine m_get (pc := 31) cx hm fl_X7_89 rfl dX7_delay_31 ?_
    refine z_if_ne (pc := 34) (tgt := 44) cx (by rw [mw_s]; omega) (by decide) dX7_delay_34 (fun c_34 => ?_) (fun c_34 => ?_)
    · skip
      exact g_return (pc := 44) cx rx (by decide) (by decide) dX7_delay_44 ⟨rfl, by unfold delS; rw [← he]; split <;> first | exact hm | (exfalso; have q2 := c_34; simp only [mw_s] at q2; omega), hF⟩
    · skip
      refine z_al_3_0 (pc := 37) cx dX7_delay_37 ?_
      refine m_get (pc := 38) cx hm fl_X7_7 rfl dX7_delay_38 ?_
      refine z_il_3_1 (pc := 41) cx dX7_delay_41 ?_
      refine z_il_3_2 (pc := 42) cx dX7_delay_42 ?_
      refine m_iast (pc := 43) (k := 1) (L := 6) cx hm hF ⟨rfl, rfl, by decide, by decide⟩ dX7_delay_43 (by rw [mw_s] at c_34; rw [he] at c_34; unfold thD at c_34; split at c_34 <;> omega) ?_
      intro σ hm hF
      exact g_return (pc := 44) cx rx (by decide) (by decide) dX7_delay_44 ⟨rfl, by unfold delS; rw [← he]; split <;> first | exact hm | (exfalso; have q2 := c_34; simp only [mw_s] at q2; omega), hF⟩
  refine z_al_3_0 (pc := 0) cx dX7_delay_0 ?_
  refine z_il_3_1 (pc := 1) cx dX7_delay_1 ?_
  refine m_callS (pc := 2) cx lk_X7_93 (c_X7_isLink (by omega)) gy_X7_isLink ⟨⟨by decide, by decide⟩, by decide, by decide⟩ ⟨rfl, rfl⟩ rfl rfl (Nat.le_of_ble_eq_true rfl) dX7_delay_2 ?_
  show G Γ _ _ _ 5 _ (.int (iI _) :: _)
  refine z_if_ne (pc := 5) (tgt := 12) cx (by have := bz_r (decide (0 ≤ w ∧ w < 6)); omega) (by decide) dX7_delay_5 (fun c_5 => ?_) (fun c_5 => ?_)
  · skip
    have hwt := bz_n0.mp c_5
    simp only [decide_eq_true_eq] at hwt
    refine z_il_3_2 (pc := 12) cx dX7_delay_12 ?_
    refine z_if_lt (pc := 13) (tgt := 22) cx (by omega) (by decide) dX7_delay_13 (fun c_13 => ?_) (fun c_13 => ?_)
    · skip
      refine z_iconst (pc := 22) cx dX7_delay_22 ?_
      refine g_goto (pc := 23) (tgt := 27) cx (by decide) dX7_delay_23 ?_
      exact J27 _ _ (by unfold thD; (repeat' split) <;> omega) hm hF
    · skip
      refine z_il_3_2 (pc := 16) cx dX7_delay_16 ?_
      refine z_bipush (pc := 17) cx rfl dX7_delay_17 ?_
      refine z_icmp_le (pc := 19) (tgt := 26) cx (by omega) (by decide) dX7_delay_19 (fun c_19 => ?_) (fun c_19 => ?_)
      · skip
        refine z_iconst (pc := 26) cx dX7_delay_26 ?_
        exact J27 _ _ (by unfold thD; (repeat' split) <;> omega) hm hF
      · skip
        refine z_iconst (pc := 22) cx dX7_delay_22 ?_
        refine g_goto (pc := 23) (tgt := 27) cx (by decide) dX7_delay_23 ?_
        exact J27 _ _ (by unfold thD; (repeat' split) <;> omega) hm hF
  · skip
    have hwf := bz_0.mp c_5
    simp only [decide_eq_false_iff_not] at hwf
    refine z_iconst (pc := 8) cx dX7_delay_8 ?_
    refine g_goto (pc := 9) (tgt := 27) cx (by decide) dX7_delay_9 ?_
    exact J27 _ _ (by unfold thD; (repeat' split) <;> omega) hm hF

set_option maxRecDepth 100000 in
set_option maxHeartbeats 4000000 in
theorem c_X7_offset {lc : Launch} {dA : Nat → ClassId} {ad : Nat → Nat} {σ0 : hS} {h : Nat} {S : mS} (hm : mat dA ad σ0 h S) {i : Int} (hi : -2147483648 ≤ i ∧ i ≤ 2147483647) (hs : -1 ≤ S 7 0 ∧ S 7 0 ≤ 5) : gM lc dA yX7_offset (.code yX7_offset cX7_offset 2 (some .int)) { frames := 0, cells := 0, slots := 0, locals := 0 } σ0 [.ref h, .int (iI i)] (mP dA ad h σ0 (some (.int (iI (ofR S i)))) (mw S 0 0 (thO S i))) nX := by
  refine gM_body (by decide +kernel) (by simp [Value.category]) (Nat.le_of_ble_eq_true rfl) (fun Γ hdA cx rx nx => ?_)
  subst hdA
  have cx : CX lc Γ cX7_offset RX7 2 { frames := 0, cells := 0, slots := 0, locals := 0 } := cx
  show G Γ σ0 0 0 0 [some (.ref h), some (.int (iI i))] []
  have hF : mFr ad h σ0 σ0 := mFr.rf
  have J33 : ∀ (e : Int) (σ : hS), e = thO S i → mat (gdA Γ) ad σ h S → mFr ad h σ0 σ → G Γ σ 0 0 33 [some (.ref h), some (.int (iI (i)))] [.int (iI e), .ref h] := by
    intro e σ he hm hF
    have her : 0 ≤ e ∧ e ≤ 3 := by rw [he]; unfold thO; (repeat' split) <;> omega
    refine m_put (pc := 33) cx hm hF fl_X7_89 ⟨rfl, rfl, by decide, rfl⟩ (mFs_0 _ _ _) dX7_offset_33 ?_
    intro σ hm hF
    refine z_al_2_0 (pc := 36) cx dX7_offset_36 ?_
    refine m_get (pc := 37) cx hm fl_X7_89 rfl dX7_offset_37 ?_
    refine z_if_le (pc := 40) (tgt := 47) cx (by rw [mw_s]; omega) (by decide) dX7_offset_40 (fun c_40 => ?_) (fun c_40 => ?_)
    · skip
      have hz : 0 ≤ i ∧ i < S 7 0 := by rw [mw_s] at c_40; unfold thO at he; split at he; omega; split at he <;> omega
      refine z_al_2_0 (pc := 47) cx dX7_offset_47 ?_
      refine m_get (pc := 48) cx hm fl_X7_34 rfl dX7_offset_48 ?_
      refine z_il_2_1 (pc := 51) cx dX7_offset_51 ?_
      refine m_iald (pc := 52) (k := 10) (L := 15) cx hm ⟨rfl, rfl, by decide, by decide⟩ dX7_offset_52 (by omega) ?_
      rw [mw_s] at c_40
      exact z_ret (pc := 53) cx rx (by decide) (by decide) dX7_offset_53 ⟨by unfold ofR; rw [← he]; first | (rw [if_neg (by omega)]; done) | (rw [if_pos (by omega), mw_k (by decide)]), by rw [← he]; exact hm, hF⟩
    · skip
      refine z_iconst (pc := 43) cx dX7_offset_43 ?_
      refine g_goto (pc := 44) (tgt := 53) cx (by decide) dX7_offset_44 ?_
      rw [mw_s] at c_40
      exact z_ret (pc := 53) cx rx (by decide) (by decide) dX7_offset_53 ⟨by unfold ofR; rw [← he]; first | (rw [if_neg (by omega)]; done) | (rw [if_pos (by omega), mw_k (by decide)]), by rw [← he]; exact hm, hF⟩
  refine z_al_2_0 (pc := 0) cx dX7_offset_0 ?_
  refine z_al_2_0 (pc := 1) cx dX7_offset_1 ?_
  refine m_get (pc := 2) cx hm fl_X7_25 rfl dX7_offset_2 ?_
  refine z_iconst (pc := 5) cx dX7_offset_5 ?_
  refine m_iald (pc := 6) (k := 7) (L := 3) cx hm ⟨rfl, rfl, by decide, by decide⟩ dX7_offset_6 (by omega) ?_
  refine z_if_ge (pc := 7) (tgt := 14) cx (by omega) (by decide) dX7_offset_7 (fun c_7 => ?_) (fun c_7 => ?_)
  · skip
    refine z_il_2_1 (pc := 14) cx dX7_offset_14 ?_
    refine z_if_lt (pc := 15) (tgt := 28) cx (by omega) (by decide) dX7_offset_15 (fun c_15 => ?_) (fun c_15 => ?_)
    · skip
      refine z_iconst (pc := 28) cx dX7_offset_28 ?_
      refine g_goto (pc := 29) (tgt := 33) cx (by decide) dX7_offset_29 ?_
      exact J33 _ _ (by unfold thO; (repeat' split) <;> omega) hm hF
    · skip
      refine z_il_2_1 (pc := 18) cx dX7_offset_18 ?_
      refine z_al_2_0 (pc := 19) cx dX7_offset_19 ?_
      refine m_get (pc := 20) cx hm fl_X7_25 rfl dX7_offset_20 ?_
      refine z_iconst (pc := 23) cx dX7_offset_23 ?_
      refine m_iald (pc := 24) (k := 7) (L := 3) cx hm ⟨rfl, rfl, by decide, by decide⟩ dX7_offset_24 (by omega) ?_
      refine z_icmp_lt (pc := 25) (tgt := 32) cx (by omega) (by decide) dX7_offset_25 (fun c_25 => ?_) (fun c_25 => ?_)
      · skip
        refine z_iconst (pc := 32) cx dX7_offset_32 ?_
        exact J33 _ _ (by unfold thO; (repeat' split) <;> omega) hm hF
      · skip
        refine z_iconst (pc := 28) cx dX7_offset_28 ?_
        refine g_goto (pc := 29) (tgt := 33) cx (by decide) dX7_offset_29 ?_
        exact J33 _ _ (by unfold thO; (repeat' split) <;> omega) hm hF
  · skip
    refine z_iconst (pc := 10) cx dX7_offset_10 ?_
    refine g_goto (pc := 11) (tgt := 33) cx (by decide) dX7_offset_11 ?_
    exact J33 _ _ (by unfold thO; (repeat' split) <;> omega) hm hF

set_option maxRecDepth 100000 in
set_option maxHeartbeats 4000000 in
theorem c_X7_gate {lc : Launch} {dA : Nat → ClassId} {ad : Nat → Nat} {σ0 : hS} {h : Nat} {S : mS} (hm : mat dA ad σ0 h S) {w t : Int} (hw : -2147483648 ≤ w ∧ w ≤ 2147483647) (ht : -2147483648 ≤ t ∧ t ≤ 2147483647) (hs : mSch S 0) : gM lc dA yX7_gate (.code yX7_gate cX7_gate 3 (some .int)) { frames := 2, cells := 0, slots := 0, locals := 51 } σ0 [.ref h, .int (iI w), .int (iI t)] (mP dA ad h σ0 (some (.int (iI (gaR S w t)))) (mw S 0 0 (thG S w t))) nX := by
  refine gM_body (by decide +kernel) (by simp [Value.category]) (Nat.le_of_ble_eq_true rfl) (fun Γ hdA cx rx nx => ?_)
  subst hdA
  have cx : CX lc Γ cX7_gate RX7 3 { frames := 2, cells := 0, slots := 0, locals := 51 } := cx
  show G Γ σ0 0 0 0 [some (.ref h), some (.int (iI w)), some (.int (iI t))] []
  have hF : mFr ad h σ0 σ0 := mFr.rf
  have hs1 := hs.1
  have J40 : ∀ (e : Int) (σ : hS), e = thG S w t → mat (gdA Γ) ad σ h S → mFr ad h σ0 σ → G Γ σ 0 0 40 [some (.ref h), some (.int (iI (w))), some (.int (iI (t)))] [.int (iI e), .ref h] := by
    intro e σ he hm hF
    have her : 0 ≤ e ∧ e ≤ 3 := by rw [he]; unfold thG; (repeat' split) <;> omega
    refine m_put (pc := 40) cx hm hF fl_X7_89 ⟨rfl, rfl, by decide, rfl⟩ (mFs_0 _ _ _) dX7_gate_40 ?_
    intro σ hm hF
    refine z_al_3_0 (pc := 43) cx dX7_gate_43 ?_
    refine m_get (pc := 44) cx hm fl_X7_89 rfl dX7_gate_44 ?_
    refine z_if_le (pc := 47) (tgt := 54) cx (by rw [mw_s]; omega) (by decide) dX7_gate_47 (fun c_47 => ?_) (fun c_47 => ?_)
    · skip
      have hz : (0 ≤ w ∧ w < 6) ∧ (0 ≤ t ∧ t ≤ 31) := by rw [mw_s] at c_47; unfold thG at he; split at he; omega; split at he <;> omega
      refine z_al_3_0 (pc := 54) cx dX7_gate_54 ?_
      refine z_iconst (pc := 55) cx dX7_gate_55 ?_
      refine z_il_3_1 (pc := 56) cx dX7_gate_56 ?_
      refine z_il_3_2 (pc := 57) cx dX7_gate_57 ?_
      refine m_callV (pc := 58) cx lk_X7_131 (c_X7_spanOf hm (k := 0) (by omega) (mSch_eq sEq_0 hs) (by omega) (by omega)) hm hF rfl gy_X7_spanOf ⟨⟨by decide, by decide⟩, by decide, by decide⟩ ⟨rfl, rfl⟩ rfl rfl (Nat.le_of_ble_eq_true rfl) dX7_gate_58 ?_
      intro σ hm hF
      show G Γ _ _ _ 61 _ (.int (iI _) :: _)
      rw [mw_s] at c_47
      exact z_ret (pc := 61) cx rx (by decide) (by decide) dX7_gate_61 ⟨by unfold gaR; rw [← he]; first | (rw [if_neg (by omega)]; done) | (rw [if_pos (by omega), spF_eq sEq_0]), by rw [← he]; exact hm, hF⟩
    · skip
      refine z_iconst (pc := 50) cx dX7_gate_50 ?_
      refine g_goto (pc := 51) (tgt := 61) cx (by decide) dX7_gate_51 ?_
      rw [mw_s] at c_47
      exact z_ret (pc := 61) cx rx (by decide) (by decide) dX7_gate_61 ⟨by unfold gaR; rw [← he]; first | (rw [if_neg (by omega)]; done) | (rw [if_pos (by omega), spF_eq sEq_0]), by rw [← he]; exact hm, hF⟩
  refine z_al_3_0 (pc := 0) cx dX7_gate_0 ?_
  refine z_il_3_1 (pc := 1) cx dX7_gate_1 ?_
  refine m_callS (pc := 2) cx lk_X7_93 (c_X7_isLink (by omega)) gy_X7_isLink ⟨⟨by decide, by decide⟩, by decide, by decide⟩ ⟨rfl, rfl⟩ rfl rfl (Nat.le_of_ble_eq_true rfl) dX7_gate_2 ?_
  show G Γ _ _ _ 5 _ (.int (iI _) :: _)
  refine z_if_ne (pc := 5) (tgt := 12) cx (by have := bz_r (decide (0 ≤ w ∧ w < 6)); omega) (by decide) dX7_gate_5 (fun c_5 => ?_) (fun c_5 => ?_)
  · skip
    have hwt := bz_n0.mp c_5
    simp only [decide_eq_true_eq] at hwt
    refine z_il_3_2 (pc := 12) cx dX7_gate_12 ?_
    refine z_if_lt (pc := 13) (tgt := 22) cx (by omega) (by decide) dX7_gate_13 (fun c_13 => ?_) (fun c_13 => ?_)
    · skip
      refine z_iconst (pc := 22) cx dX7_gate_22 ?_
      refine g_goto (pc := 23) (tgt := 40) cx (by decide) dX7_gate_23 ?_
      exact J40 _ _ (by unfold thG; (repeat' split) <;> omega) hm hF
    · skip
      refine z_il_3_2 (pc := 16) cx dX7_gate_16 ?_
      refine z_bipush (pc := 17) cx rfl dX7_gate_17 ?_
      refine z_icmp_le (pc := 19) (tgt := 26) cx (by omega) (by decide) dX7_gate_19 (fun c_19 => ?_) (fun c_19 => ?_)
      · skip
        refine z_al_3_0 (pc := 26) cx dX7_gate_26 ?_
        refine m_get (pc := 27) cx hm fl_X7_25 rfl dX7_gate_27 ?_
        refine z_iconst (pc := 30) cx dX7_gate_30 ?_
        refine m_iald (pc := 31) (k := 7) (L := 3) cx hm ⟨rfl, rfl, by decide, by decide⟩ dX7_gate_31 (by omega) ?_
        refine z_if_ge (pc := 32) (tgt := 39) cx (by omega) (by decide) dX7_gate_32 (fun c_32 => ?_) (fun c_32 => ?_)
        · skip
          refine z_iconst (pc := 39) cx dX7_gate_39 ?_
          exact J40 _ _ (by unfold thG; (repeat' split) <;> omega) hm hF
        · skip
          refine z_iconst (pc := 35) cx dX7_gate_35 ?_
          refine g_goto (pc := 36) (tgt := 40) cx (by decide) dX7_gate_36 ?_
          exact J40 _ _ (by unfold thG; (repeat' split) <;> omega) hm hF
      · skip
        refine z_iconst (pc := 22) cx dX7_gate_22 ?_
        refine g_goto (pc := 23) (tgt := 40) cx (by decide) dX7_gate_23 ?_
        exact J40 _ _ (by unfold thG; (repeat' split) <;> omega) hm hF
  · skip
    have hwf := bz_0.mp c_5
    simp only [decide_eq_false_iff_not] at hwf
    refine z_iconst (pc := 8) cx dX7_gate_8 ?_
    refine g_goto (pc := 9) (tgt := 40) cx (by decide) dX7_gate_9 ?_
    exact J40 _ _ (by unfold thG; (repeat' split) <;> omega) hm hF

set_option maxRecDepth 100000 in
set_option maxHeartbeats 4000000 in
theorem c_X7_copy {lc : Launch} {dA : Nat → ClassId} {ad : Nat → Nat} {σ0 : hS} {h : Nat} {S : mS} (hm : mat dA ad σ0 h S) {a b : Int} (ha : 0 ≤ a ∧ a ≤ 2) (hb : 0 ≤ b ∧ b ≤ 2) : gM lc dA yX7_copy (.code yX7_copy cX7_copy 4 none) { frames := 0, cells := 0, slots := 0, locals := 0 } σ0 [.ref h, .int (iI a), .int (iI b)] (mP dA ad h σ0 none (copF S a b)) nX := by
  refine gM_body (by decide +kernel) (by simp [Value.category]) (Nat.le_of_ble_eq_true rfl) (fun Γ hdA cx rx nx => ?_)
  subst hdA
  have cx : CX lc Γ cX7_copy RX7 4 { frames := 0, cells := 0, slots := 0, locals := 0 } := cx
  show G Γ σ0 0 0 0 [some (.ref h), some (.int (iI a)), some (.int (iI b)), none] []
  have hF : mFr ad h σ0 σ0 := mFr.rf
  refine z_al_4_0 (pc := 0) cx dX7_copy_0 ?_
  refine m_get (pc := 1) cx hm fl_X7_25 rfl dX7_copy_1 ?_
  refine z_il_4_2 (pc := 4) cx dX7_copy_4 ?_
  refine z_al_4_0 (pc := 5) cx dX7_copy_5 ?_
  refine m_get (pc := 6) cx hm fl_X7_25 rfl dX7_copy_6 ?_
  refine z_il_4_1 (pc := 9) cx dX7_copy_9 ?_
  refine m_iald (pc := 10) (k := 7) (L := 3) cx hm ⟨rfl, rfl, by decide, by decide⟩ dX7_copy_10 (by omega) ?_
  refine m_iast (pc := 11) (k := 7) (L := 3) cx hm hF ⟨rfl, rfl, by decide, by decide⟩ dX7_copy_11 (by omega) ?_
  intro σ hm hF
  refine z_iconst (pc := 12) cx dX7_copy_12 ?_
  refine z_is_4_3 (pc := 13) cx dX7_copy_13 ?_
  have J14 : ∀ (n i : Nat) (σ : hS), i + n = 5 → mat (gdA Γ) ad σ h (itN i (cp5 a b) (mw S 7 b (S 7 a))) → mFr ad h σ0 σ → G Γ σ 0 0 14 [some (.ref h), some (.int (iI (a))), some (.int (iI (b))), some (.int (iI ((i : Int))))] [] := by
    intro n
    induction n using Nat.strongRecOn with
    | _ n ih =>
    intro i σ hin hm hF
    refine z_il_4_3 (pc := 14) cx dX7_copy_14 ?_
    refine z_iconst (pc := 15) cx dX7_copy_15 ?_
    refine z_icmp_ge (pc := 16) (tgt := 85) cx (by omega) (by decide) dX7_copy_16 (fun c_16 => ?_) (fun c_16 => ?_)
    · obtain rfl : i = 5 := by omega
      refine z_iconst (pc := 85) cx dX7_copy_85 ?_
      refine z_is_4_3 (pc := 86) cx dX7_copy_86 ?_
      have J87 : ∀ (n2 j : Nat) (σ : hS), j + n2 = 15 → mat (gdA Γ) ad σ h (itN j (cp15 a b) (itN 5 (cp5 a b) (mw S 7 b (S 7 a)))) → mFr ad h σ0 σ → G Γ σ 0 0 87 [some (.ref h), some (.int (iI (a))), some (.int (iI (b))), some (.int (iI ((j : Int))))] [] := by
        intro n2
        induction n2 using Nat.strongRecOn with
        | _ n2 ih2 =>
        intro j σ hjn hm hF
        refine z_il_4_3 (pc := 87) cx dX7_copy_87 ?_
        refine z_bipush (pc := 88) cx rfl dX7_copy_88 ?_
        refine z_icmp_ge (pc := 90) (tgt := 143) cx (by omega) (by decide) dX7_copy_90 (fun c_90 => ?_) (fun c_90 => ?_)
        · obtain rfl : j = 15 := by omega
          exact g_return (pc := 143) cx rx (by decide) (by decide) dX7_copy_143 ⟨rfl, hm, hF⟩
        · skip
          refine z_al_4_0 (pc := 93) cx dX7_copy_93 ?_
          refine m_get (pc := 94) cx hm fl_X7_37 rfl dX7_copy_94 ?_
          refine z_bipush (pc := 97) cx rfl dX7_copy_97 ?_
          refine z_il_4_2 (pc := 99) cx dX7_copy_99 ?_
          refine z_imul (pc := 100) cx dX7_copy_100 ?_
          refine z_il_4_3 (pc := 101) cx dX7_copy_101 ?_
          refine z_iadd (pc := 102) cx dX7_copy_102 ?_
          refine z_al_4_0 (pc := 103) cx dX7_copy_103 ?_
          refine m_get (pc := 104) cx hm fl_X7_37 rfl dX7_copy_104 ?_
          refine z_bipush (pc := 107) cx rfl dX7_copy_107 ?_
          refine z_il_4_1 (pc := 109) cx dX7_copy_109 ?_
          refine z_imul (pc := 110) cx dX7_copy_110 ?_
          refine z_il_4_3 (pc := 111) cx dX7_copy_111 ?_
          refine z_iadd (pc := 112) cx dX7_copy_112 ?_
          refine m_iald (pc := 113) (k := 11) (L := 45) cx hm ⟨rfl, rfl, by decide, by decide⟩ dX7_copy_113 (by omega) ?_
          refine m_iast (pc := 114) (k := 11) (L := 45) cx hm hF ⟨rfl, rfl, by decide, by decide⟩ dX7_copy_114 (by omega) ?_
          intro σ hm hF
          refine z_al_4_0 (pc := 115) cx dX7_copy_115 ?_
          refine m_get (pc := 116) cx hm fl_X7_40 rfl dX7_copy_116 ?_
          refine z_bipush (pc := 119) cx rfl dX7_copy_119 ?_
          refine z_il_4_2 (pc := 121) cx dX7_copy_121 ?_
          refine z_imul (pc := 122) cx dX7_copy_122 ?_
          refine z_il_4_3 (pc := 123) cx dX7_copy_123 ?_
          refine z_iadd (pc := 124) cx dX7_copy_124 ?_
          refine z_al_4_0 (pc := 125) cx dX7_copy_125 ?_
          refine m_get (pc := 126) cx hm fl_X7_40 rfl dX7_copy_126 ?_
          refine z_bipush (pc := 129) cx rfl dX7_copy_129 ?_
          refine z_il_4_1 (pc := 131) cx dX7_copy_131 ?_
          refine z_imul (pc := 132) cx dX7_copy_132 ?_
          refine z_il_4_3 (pc := 133) cx dX7_copy_133 ?_
          refine z_iadd (pc := 134) cx dX7_copy_134 ?_
          refine m_iald (pc := 135) (k := 12) (L := 45) cx hm ⟨rfl, rfl, by decide, by decide⟩ dX7_copy_135 (by omega) ?_
          refine m_iast (pc := 136) (k := 12) (L := 45) cx hm hF ⟨rfl, rfl, by decide, by decide⟩ dX7_copy_136 (by omega) ?_
          intro σ hm hF
          refine z_ii_4_3 (pc := 137) cx dX7_copy_137 ?_
          refine g_goto (pc := 140) (tgt := 87) cx (by decide) dX7_copy_140 ?_
          exact ih2 (n2 - 1) (by omega) (j + 1) σ (by omega) hm hF
      exact J87 15 0 σ rfl hm hF
    · skip
      refine z_al_4_0 (pc := 19) cx dX7_copy_19 ?_
      refine m_get (pc := 20) cx hm fl_X7_28 rfl dX7_copy_20 ?_
      refine z_iconst (pc := 23) cx dX7_copy_23 ?_
      refine z_il_4_2 (pc := 24) cx dX7_copy_24 ?_
      refine z_imul (pc := 25) cx dX7_copy_25 ?_
      refine z_il_4_3 (pc := 26) cx dX7_copy_26 ?_
      refine z_iadd (pc := 27) cx dX7_copy_27 ?_
      refine z_al_4_0 (pc := 28) cx dX7_copy_28 ?_
      refine m_get (pc := 29) cx hm fl_X7_28 rfl dX7_copy_29 ?_
      refine z_iconst (pc := 32) cx dX7_copy_32 ?_
      refine z_il_4_1 (pc := 33) cx dX7_copy_33 ?_
      refine z_imul (pc := 34) cx dX7_copy_34 ?_
      refine z_il_4_3 (pc := 35) cx dX7_copy_35 ?_
      refine z_iadd (pc := 36) cx dX7_copy_36 ?_
      refine m_iald (pc := 37) (k := 8) (L := 15) cx hm ⟨rfl, rfl, by decide, by decide⟩ dX7_copy_37 (by omega) ?_
      refine m_iast (pc := 38) (k := 8) (L := 15) cx hm hF ⟨rfl, rfl, by decide, by decide⟩ dX7_copy_38 (by omega) ?_
      intro σ hm hF
      refine z_al_4_0 (pc := 39) cx dX7_copy_39 ?_
      refine m_get (pc := 40) cx hm fl_X7_31 rfl dX7_copy_40 ?_
      refine z_iconst (pc := 43) cx dX7_copy_43 ?_
      refine z_il_4_2 (pc := 44) cx dX7_copy_44 ?_
      refine z_imul (pc := 45) cx dX7_copy_45 ?_
      refine z_il_4_3 (pc := 46) cx dX7_copy_46 ?_
      refine z_iadd (pc := 47) cx dX7_copy_47 ?_
      refine z_al_4_0 (pc := 48) cx dX7_copy_48 ?_
      refine m_get (pc := 49) cx hm fl_X7_31 rfl dX7_copy_49 ?_
      refine z_iconst (pc := 52) cx dX7_copy_52 ?_
      refine z_il_4_1 (pc := 53) cx dX7_copy_53 ?_
      refine z_imul (pc := 54) cx dX7_copy_54 ?_
      refine z_il_4_3 (pc := 55) cx dX7_copy_55 ?_
      refine z_iadd (pc := 56) cx dX7_copy_56 ?_
      refine m_iald (pc := 57) (k := 9) (L := 15) cx hm ⟨rfl, rfl, by decide, by decide⟩ dX7_copy_57 (by omega) ?_
      refine m_iast (pc := 58) (k := 9) (L := 15) cx hm hF ⟨rfl, rfl, by decide, by decide⟩ dX7_copy_58 (by omega) ?_
      intro σ hm hF
      refine z_al_4_0 (pc := 59) cx dX7_copy_59 ?_
      refine m_get (pc := 60) cx hm fl_X7_34 rfl dX7_copy_60 ?_
      refine z_iconst (pc := 63) cx dX7_copy_63 ?_
      refine z_il_4_2 (pc := 64) cx dX7_copy_64 ?_
      refine z_imul (pc := 65) cx dX7_copy_65 ?_
      refine z_il_4_3 (pc := 66) cx dX7_copy_66 ?_
      refine z_iadd (pc := 67) cx dX7_copy_67 ?_
      refine z_al_4_0 (pc := 68) cx dX7_copy_68 ?_
      refine m_get (pc := 69) cx hm fl_X7_34 rfl dX7_copy_69 ?_
      refine z_iconst (pc := 72) cx dX7_copy_72 ?_
      refine z_il_4_1 (pc := 73) cx dX7_copy_73 ?_
      refine z_imul (pc := 74) cx dX7_copy_74 ?_
      refine z_il_4_3 (pc := 75) cx dX7_copy_75 ?_
      refine z_iadd (pc := 76) cx dX7_copy_76 ?_
      refine m_iald (pc := 77) (k := 10) (L := 15) cx hm ⟨rfl, rfl, by decide, by decide⟩ dX7_copy_77 (by omega) ?_
      refine m_iast (pc := 78) (k := 10) (L := 15) cx hm hF ⟨rfl, rfl, by decide, by decide⟩ dX7_copy_78 (by omega) ?_
      intro σ hm hF
      refine z_ii_4_3 (pc := 79) cx dX7_copy_79 ?_
      refine g_goto (pc := 82) (tgt := 14) cx (by decide) dX7_copy_82 ?_
      exact ih (n - 1) (by omega) (i + 1) σ (by omega) hm hF
  exact J14 5 0 σ rfl hm hF

set_option maxRecDepth 100000 in
set_option maxHeartbeats 4000000 in
theorem c_X7_activate {lc : Launch} {dA : Nat → ClassId} {ad : Nat → Nat} {σ0 : hS} {h : Nat} {S : mS} (hm : mat dA ad σ0 h S) (hs : -1 ≤ S 7 0 ∧ S 7 0 ≤ 5) : gM lc dA yX7_activate (.code yX7_activate cX7_activate 1 none) { frames := 1, cells := 0, slots := 0, locals := 23 } σ0 [.ref h] (mP dA ad h σ0 none (actS S)) nX := by
  refine gM_body (by decide +kernel) (by simp [Value.category]) (Nat.le_of_ble_eq_true rfl) (fun Γ hdA cx rx nx => ?_)
  subst hdA
  have cx : CX lc Γ cX7_activate RX7 1 { frames := 1, cells := 0, slots := 0, locals := 23 } := cx
  show G Γ σ0 0 0 0 [some (.ref h)] []
  have hF : mFr ad h σ0 σ0 := mFr.rf
  have J15 : ∀ (e : Int) (σ : hS), e = thA S → mat (gdA Γ) ad σ h S → mFr ad h σ0 σ → G Γ σ 0 0 15 [some (.ref h)] [.int (iI e), .ref h] := by
    intro e σ he hm hF
    have her : 0 ≤ e ∧ e ≤ 3 := by rw [he]; unfold thA; (repeat' split) <;> omega
    refine m_put (pc := 15) cx hm hF fl_X7_89 ⟨rfl, rfl, by decide, rfl⟩ (mFs_0 _ _ _) dX7_activate_15 ?_
    intro σ hm hF
    refine z_al_1_0 (pc := 18) cx dX7_activate_18 ?_
    refine m_get (pc := 19) cx hm fl_X7_89 rfl dX7_activate_19 ?_
    refine z_if_ne (pc := 22) (tgt := 31) cx (by rw [mw_s]; omega) (by decide) dX7_activate_22 (fun c_22 => ?_) (fun c_22 => ?_)
    · skip
      exact g_return (pc := 31) cx rx (by decide) (by decide) dX7_activate_31 ⟨rfl, by unfold actS; rw [← he]; split <;> first | exact hm | (exfalso; have q2 := c_22; simp only [mw_s] at q2; omega), hF⟩
    · skip
      refine z_al_1_0 (pc := 25) cx dX7_activate_25 ?_
      refine z_iconst (pc := 26) cx dX7_activate_26 ?_
      refine z_iconst (pc := 27) cx dX7_activate_27 ?_
      refine m_callV (pc := 28) cx lk_X7_134 (c_X7_copy hm (a := 0) (b := 1) (by omega) (by omega)) hm hF rfl gy_X7_copy ⟨⟨by decide, by decide⟩, by decide, by decide⟩ ⟨rfl, rfl⟩ rfl rfl (Nat.le_of_ble_eq_true rfl) dX7_activate_28 ?_
      intro σ hm hF
      show G Γ _ _ _ 31 _ _
      exact g_return (pc := 31) cx rx (by decide) (by decide) dX7_activate_31 ⟨rfl, by unfold actS; rw [← he]; split <;> first | exact hm | (exfalso; have q2 := c_22; simp only [mw_s] at q2; omega), hF⟩
  refine z_al_1_0 (pc := 0) cx dX7_activate_0 ?_
  refine z_al_1_0 (pc := 1) cx dX7_activate_1 ?_
  refine m_get (pc := 2) cx hm fl_X7_25 rfl dX7_activate_2 ?_
  refine z_iconst (pc := 5) cx dX7_activate_5 ?_
  refine m_iald (pc := 6) (k := 7) (L := 3) cx hm ⟨rfl, rfl, by decide, by decide⟩ dX7_activate_6 (by omega) ?_
  refine z_if_ge (pc := 7) (tgt := 14) cx (by omega) (by decide) dX7_activate_7 (fun c_7 => ?_) (fun c_7 => ?_)
  · skip
    refine z_iconst (pc := 14) cx dX7_activate_14 ?_
    exact J15 _ _ (by unfold thA; (repeat' split) <;> omega) hm hF
  · skip
    refine z_iconst (pc := 10) cx dX7_activate_10 ?_
    refine g_goto (pc := 11) (tgt := 15) cx (by decide) dX7_activate_11 ?_
    exact J15 _ _ (by unfold thA; (repeat' split) <;> omega) hm hF

set_option maxRecDepth 100000 in
set_option maxHeartbeats 4000000 in
theorem c_X7_keep {lc : Launch} {dA : Nat → ClassId} {ad : Nat → Nat} {σ0 : hS} {h : Nat} {S : mS} (hm : mat dA ad σ0 h S) (hn : 0 ≤ S 2 0 ∧ S 2 0 ≤ 5) (hs : ∀ i, 0 ≤ i → i < S 2 0 → mSt S i) : gM lc dA yX7_keep (.code yX7_keep cX7_keep 4 none) { frames := 0, cells := 0, slots := 0, locals := 0 } σ0 [.ref h] (mP dA ad h σ0 none (keepF S)) nX := by
  refine gM_body (by decide +kernel) (by simp [Value.category]) (Nat.le_of_ble_eq_true rfl) (fun Γ hdA cx rx nx => ?_)
  subst hdA
  have cx : CX lc Γ cX7_keep RX7 4 { frames := 0, cells := 0, slots := 0, locals := 0 } := cx
  show G Γ σ0 0 0 0 [some (.ref h), none, none, none] []
  have hF : mFr ad h σ0 σ0 := mFr.rf
  refine z_al_4_0 (pc := 0) cx dX7_keep_0 ?_
  refine m_get (pc := 1) cx hm fl_X7_25 rfl dX7_keep_1 ?_
  refine z_iconst (pc := 4) cx dX7_keep_4 ?_
  refine z_al_4_0 (pc := 5) cx dX7_keep_5 ?_
  refine m_get (pc := 6) cx hm fl_X7_97 rfl dX7_keep_6 ?_
  refine m_iast (pc := 9) (k := 7) (L := 3) cx hm hF ⟨rfl, rfl, by decide, by decide⟩ dX7_keep_9 (by omega) ?_
  intro σ hm hF
  refine z_iconst (pc := 10) cx dX7_keep_10 ?_
  refine z_is_4_1 (pc := 11) cx dX7_keep_11 ?_
  have J12 : ∀ (n i : Nat) (x2 x3 : Option Value) (T : mS) (σ : hS), i + n = (S 2 0).toNat → T = itN i (fun T i => itN 3 (kpJ i) (kpI T i)) (mw S 7 0 (S 2 0)) → (∀ k, k < 7 ∨ 12 < k → T k = S k) → mat (gdA Γ) ad σ h T → mFr ad h σ0 σ → G Γ σ 0 0 12 [some (.ref h), some (.int (iI ((i : Int)))), x2, x3] [] := by
    intro n
    induction n using Nat.strongRecOn with
    | _ n ih =>
    intro i x2 x3 T σ hin hT hk hm hF
    have e2 := congrFun (hk 2 (by omega)) 0
    refine z_il_4_1 (pc := 12) cx dX7_keep_12 ?_
    refine z_al_4_0 (pc := 13) cx dX7_keep_13 ?_
    refine m_get (pc := 14) cx hm fl_X7_97 rfl dX7_keep_14 ?_
    refine z_icmp_ge (pc := 17) (tgt := 121) cx (by omega) (by decide) dX7_keep_17 (fun c_17 => ?_) (fun c_17 => ?_)
    · obtain rfl : i = (S 2 0).toNat := by omega
      exact g_return (pc := 121) cx rx (by decide) (by decide) dX7_keep_121 ⟨rfl, by unfold keepF; rw [← hT]; exact hm, hF⟩
    · skip
      refine z_al_4_0 (pc := 20) cx dX7_keep_20 ?_
      refine m_get (pc := 21) cx hm fl_X7_28 rfl dX7_keep_21 ?_
      refine z_il_4_1 (pc := 24) cx dX7_keep_24 ?_
      refine z_al_4_0 (pc := 25) cx dX7_keep_25 ?_
      refine m_get (pc := 26) cx hm fl_X7_13 rfl dX7_keep_26 ?_
      refine z_il_4_1 (pc := 29) cx dX7_keep_29 ?_
      refine m_iald (pc := 30) (k := 3) (L := 5) cx hm ⟨rfl, rfl, by decide, by decide⟩ dX7_keep_30 (by omega) ?_
      refine m_iast (pc := 31) (k := 8) (L := 15) cx hm hF ⟨rfl, rfl, by decide, by decide⟩ dX7_keep_31 (by omega) ?_
      intro σ hm hF
      refine z_al_4_0 (pc := 32) cx dX7_keep_32 ?_
      refine m_get (pc := 33) cx hm fl_X7_31 rfl dX7_keep_33 ?_
      refine z_il_4_1 (pc := 36) cx dX7_keep_36 ?_
      refine z_al_4_0 (pc := 37) cx dX7_keep_37 ?_
      refine m_get (pc := 38) cx hm fl_X7_16 rfl dX7_keep_38 ?_
      refine z_il_4_1 (pc := 41) cx dX7_keep_41 ?_
      refine m_iald (pc := 42) (k := 4) (L := 5) cx hm ⟨rfl, rfl, by decide, by decide⟩ dX7_keep_42 (by omega) ?_
      refine m_iast (pc := 43) (k := 9) (L := 15) cx hm hF ⟨rfl, rfl, by decide, by decide⟩ dX7_keep_43 (by omega) ?_
      intro σ hm hF
      refine z_al_4_0 (pc := 44) cx dX7_keep_44 ?_
      refine m_get (pc := 45) cx hm fl_X7_34 rfl dX7_keep_45 ?_
      refine z_il_4_1 (pc := 48) cx dX7_keep_48 ?_
      refine z_al_4_0 (pc := 49) cx dX7_keep_49 ?_
      refine m_get (pc := 50) cx hm fl_X7_43 rfl dX7_keep_50 ?_
      refine z_il_4_1 (pc := 53) cx dX7_keep_53 ?_
      refine m_iald (pc := 54) (k := 14) (L := 5) cx hm ⟨rfl, rfl, by decide, by decide⟩ dX7_keep_54 (by omega) ?_
      refine m_iast (pc := 55) (k := 10) (L := 15) cx hm hF ⟨rfl, rfl, by decide, by decide⟩ dX7_keep_55 (by omega) ?_
      intro σ hm hF
      refine z_iconst (pc := 56) cx dX7_keep_56 ?_
      refine z_is_4_2 (pc := 57) cx dX7_keep_57 ?_
      have J58 : ∀ (n2 j : Nat) (x3 : Option Value) (U : mS) (σ : hS), j + n2 = 3 → U = itN j (kpJ i) (kpI T i) → (∀ k, k < 7 ∨ 12 < k → U k = S k) → mat (gdA Γ) ad σ h U → mFr ad h σ0 σ → G Γ σ 0 0 58 [some (.ref h), some (.int (iI ((i : Int)))), some (.int (iI ((j : Int)))), x3] [] := by
        intro n2
        induction n2 using Nat.strongRecOn with
        | _ n2 ih2 =>
        intro j x3 U σ hjn hU hkU hm hF
        have hsi := hs (i : Int) (by omega) (by omega)
        obtain ⟨-, -, -, g0, g1, g2, -⟩ := hsi
        have e6 := congrFun (hkU 6 (by omega)) (3 * (i : Int) + (j : Int))
        refine z_il_4_2 (pc := 58) cx dX7_keep_58 ?_
        refine z_iconst (pc := 59) cx dX7_keep_59 ?_
        refine z_icmp_ge (pc := 60) (tgt := 115) cx (by omega) (by decide) dX7_keep_60 (fun c_60 => ?_) (fun c_60 => ?_)
        · obtain rfl : j = 3 := by omega
          refine z_ii_4_1 (pc := 115) cx dX7_keep_115 ?_
          refine g_goto (pc := 118) (tgt := 12) cx (by decide) dX7_keep_118 ?_
          exact ih (n - 1) (by omega) (i + 1) _ _ U σ (by omega) (by rw [hU, hT]; rfl) hkU hm hF
        · skip
          have g6 : -1 ≤ U 6 (3 * (i : Int) + (j : Int)) ∧ U 6 (3 * (i : Int) + (j : Int)) < 6 := by
            rw [e6]
            rcases (show j = 0 ∨ j = 1 ∨ j = 2 by omega) with rfl | rfl | rfl
            · simpa using (show -1 ≤ S 6 (3 * (i : Int)) ∧ S 6 (3 * (i : Int)) < 6 by omega)
            · exact g1
            · exact g2
          refine z_al_4_0 (pc := 63) cx dX7_keep_63 ?_
          refine m_get (pc := 64) cx hm fl_X7_22 rfl dX7_keep_64 ?_
          refine z_iconst (pc := 67) cx dX7_keep_67 ?_
          refine z_il_4_1 (pc := 68) cx dX7_keep_68 ?_
          refine z_imul (pc := 69) cx dX7_keep_69 ?_
          refine z_il_4_2 (pc := 70) cx dX7_keep_70 ?_
          refine z_iadd (pc := 71) cx dX7_keep_71 ?_
          refine m_iald (pc := 72) (k := 6) (L := 15) cx hm ⟨rfl, rfl, by decide, by decide⟩ dX7_keep_72 (by omega) ?_
          refine z_is_4_3 (pc := 73) cx dX7_keep_73 ?_
          refine z_al_4_0 (pc := 74) cx dX7_keep_74 ?_
          refine m_get (pc := 75) cx hm fl_X7_37 rfl dX7_keep_75 ?_
          refine z_iconst (pc := 78) cx dX7_keep_78 ?_
          refine z_il_4_1 (pc := 79) cx dX7_keep_79 ?_
          refine z_imul (pc := 80) cx dX7_keep_80 ?_
          refine z_il_4_2 (pc := 81) cx dX7_keep_81 ?_
          refine z_iadd (pc := 82) cx dX7_keep_82 ?_
          refine z_il_4_3 (pc := 83) cx dX7_keep_83 ?_
          refine m_iast (pc := 84) (k := 11) (L := 45) cx hm hF ⟨rfl, rfl, by decide, by decide⟩ dX7_keep_84 (by omega) ?_
          intro σ hm hF
          refine z_al_4_0 (pc := 85) cx dX7_keep_85 ?_
          refine m_get (pc := 86) cx hm fl_X7_40 rfl dX7_keep_86 ?_
          refine z_iconst (pc := 89) cx dX7_keep_89 ?_
          refine z_il_4_1 (pc := 90) cx dX7_keep_90 ?_
          refine z_imul (pc := 91) cx dX7_keep_91 ?_
          refine z_il_4_2 (pc := 92) cx dX7_keep_92 ?_
          refine z_iadd (pc := 93) cx dX7_keep_93 ?_
          refine z_il_4_3 (pc := 94) cx dX7_keep_94 ?_
          refine z_if_ge (pc := 95) (tgt := 102) cx (by omega) (by decide) dX7_keep_95 (fun c_95 => ?_) (fun c_95 => ?_)
          · skip
            refine z_al_4_0 (pc := 102) cx dX7_keep_102 ?_
            refine m_get (pc := 103) cx hm fl_X7_7 rfl dX7_keep_103 ?_
            refine z_il_4_3 (pc := 106) cx dX7_keep_106 ?_
            refine m_iald (pc := 107) (k := 1) (L := 6) cx hm ⟨rfl, rfl, by decide, by decide⟩ dX7_keep_107 (by omega) ?_
            refine m_iast (pc := 108) (k := 12) (L := 45) cx hm hF ⟨rfl, rfl, by decide, by decide⟩ dX7_keep_108 (by omega) ?_
            intro σ hm hF
            have hm : mat (gdA Γ) ad σ h (kpJ i U j) := by
              unfold kpJ
              first
              | (rw [if_pos (by omega)]; exact hm)
              | (rw [if_neg (by omega)]; exact hm)
            refine z_ii_4_2 (pc := 109) cx dX7_keep_109 ?_
            refine g_goto (pc := 112) (tgt := 58) cx (by decide) dX7_keep_112 ?_
            exact ih2 (n2 - 1) (by omega) (j + 1) _ _ σ (by omega) (show _ = kpJ i (itN j (kpJ i) (kpI T i)) j by rw [← hU]) (fun k hk9 => by funext e; unfold kpJ; rw [mw_k (by omega), mw_k (by omega), hkU k hk9]) hm hF
          · skip
            refine z_iconst (pc := 98) cx dX7_keep_98 ?_
            refine g_goto (pc := 99) (tgt := 108) cx (by decide) dX7_keep_99 ?_
            refine m_iast (pc := 108) (k := 12) (L := 45) cx hm hF ⟨rfl, rfl, by decide, by decide⟩ dX7_keep_108 (by omega) ?_
            intro σ hm hF
            have hm : mat (gdA Γ) ad σ h (kpJ i U j) := by
              unfold kpJ
              first
              | (rw [if_pos (by omega)]; exact hm)
              | (rw [if_neg (by omega)]; exact hm)
            refine z_ii_4_2 (pc := 109) cx dX7_keep_109 ?_
            refine g_goto (pc := 112) (tgt := 58) cx (by decide) dX7_keep_112 ?_
            exact ih2 (n2 - 1) (by omega) (j + 1) _ _ σ (by omega) (show _ = kpJ i (itN j (kpJ i) (kpI T i)) j by rw [← hU]) (fun k hk9 => by funext e; unfold kpJ; rw [mw_k (by omega), mw_k (by omega), hkU k hk9]) hm hF
      exact J58 3 0 x3 _ σ rfl rfl (fun k hk9 => by funext e; show kpI T i k e = _; unfold kpI; rw [mw_k (by omega), mw_k (by omega), mw_k (by omega), hk k hk9]) hm hF
  exact J12 (S 2 0).toNat 0 _ _ _ σ (by omega) rfl (fun k hk => funext fun e => mw_k (by omega)) hm hF

set_option maxRecDepth 100000 in
set_option maxHeartbeats 4000000 in
theorem c_X7_comeIntoForce {lc : Launch} {dA : Nat → ClassId} {ad : Nat → Nat} {σ0 : hS} {h : Nat} {S : mS} (hm : mat dA ad σ0 h S) : gM lc dA yX7_comeIntoForce (.code yX7_comeIntoForce cX7_comeIntoForce 2 none) { frames := 1, cells := 0, slots := 0, locals := 23 } σ0 [.ref h] (mP dA ad h σ0 none (cifF S)) nX := by
  refine gM_body (by decide +kernel) (by simp [Value.category]) (Nat.le_of_ble_eq_true rfl) (fun Γ hdA cx rx nx => ?_)
  subst hdA
  have cx : CX lc Γ cX7_comeIntoForce RX7 2 { frames := 1, cells := 0, slots := 0, locals := 23 } := cx
  show G Γ σ0 0 0 0 [some (.ref h), none] []
  have hF : mFr ad h σ0 σ0 := mFr.rf
  refine z_al_2_0 (pc := 0) cx dX7_comeIntoForce_0 ?_
  refine z_iconst (pc := 1) cx dX7_comeIntoForce_1 ?_
  refine z_iconst (pc := 2) cx dX7_comeIntoForce_2 ?_
  refine m_callV (pc := 3) cx lk_X7_134 (c_X7_copy hm (a := 1) (b := 2) (by omega) (by omega)) hm hF rfl gy_X7_copy ⟨⟨by decide, by decide⟩, by decide, by decide⟩ ⟨rfl, rfl⟩ rfl rfl (Nat.le_of_ble_eq_true rfl) dX7_comeIntoForce_3 ?_
  intro σ hm hF
  show G Γ _ _ _ 6 _ _
  refine z_al_2_0 (pc := 6) cx dX7_comeIntoForce_6 ?_
  refine m_get (pc := 7) cx hm fl_X7_25 rfl dX7_comeIntoForce_7 ?_
  refine z_iconst (pc := 10) cx dX7_comeIntoForce_10 ?_
  refine z_iconst (pc := 11) cx dX7_comeIntoForce_11 ?_
  refine m_iast (pc := 12) (k := 7) (L := 3) cx hm hF ⟨rfl, rfl, by decide, by decide⟩ dX7_comeIntoForce_12 (by omega) ?_
  intro σ hm hF
  refine z_iconst (pc := 13) cx dX7_comeIntoForce_13 ?_
  refine z_is_2_1 (pc := 14) cx dX7_comeIntoForce_14 ?_
  have J15 : ∀ (n i : Nat) (σ : hS), i + n = 5 → mat (gdA Γ) ad σ h (itN i cif1 (mw (copF S 1 2) 7 1 (-1))) → mFr ad h σ0 σ → G Γ σ 0 0 15 [some (.ref h), some (.int (iI ((i : Int))))] [] := by
    intro n
    induction n using Nat.strongRecOn with
    | _ n ih =>
    intro i σ hin hm hF
    refine z_il_2_1 (pc := 15) cx dX7_comeIntoForce_15 ?_
    refine z_iconst (pc := 16) cx dX7_comeIntoForce_16 ?_
    refine z_icmp_ge (pc := 17) (tgt := 75) cx (by omega) (by decide) dX7_comeIntoForce_17 (fun c_17 => ?_) (fun c_17 => ?_)
    · obtain rfl : i = 5 := by omega
      exact g_return (pc := 75) cx rx (by decide) (by decide) dX7_comeIntoForce_75 ⟨rfl, hm, hF⟩
    · skip
      refine z_al_2_0 (pc := 20) cx dX7_comeIntoForce_20 ?_
      refine m_get (pc := 21) cx hm fl_X7_46 rfl dX7_comeIntoForce_21 ?_
      refine z_il_2_1 (pc := 24) cx dX7_comeIntoForce_24 ?_
      refine z_iconst (pc := 25) cx dX7_comeIntoForce_25 ?_
      refine m_zast (pc := 26) (k := 16) (L := 5) cx hm hF ⟨rfl, rfl, by decide, by decide⟩ dX7_comeIntoForce_26 (by omega) (by omega) ?_
      intro σ hm hF
      refine z_al_2_0 (pc := 27) cx dX7_comeIntoForce_27 ?_
      refine m_get (pc := 28) cx hm fl_X7_50 rfl dX7_comeIntoForce_28 ?_
      refine z_il_2_1 (pc := 31) cx dX7_comeIntoForce_31 ?_
      refine z_iconst (pc := 32) cx dX7_comeIntoForce_32 ?_
      refine m_iast (pc := 33) (k := 17) (L := 5) cx hm hF ⟨rfl, rfl, by decide, by decide⟩ dX7_comeIntoForce_33 (by omega) ?_
      intro σ hm hF
      refine z_al_2_0 (pc := 34) cx dX7_comeIntoForce_34 ?_
      refine m_get (pc := 35) cx hm fl_X7_53 rfl dX7_comeIntoForce_35 ?_
      refine z_il_2_1 (pc := 38) cx dX7_comeIntoForce_38 ?_
      refine z_iconst (pc := 39) cx dX7_comeIntoForce_39 ?_
      refine m_zast (pc := 40) (k := 18) (L := 5) cx hm hF ⟨rfl, rfl, by decide, by decide⟩ dX7_comeIntoForce_40 (by omega) (by omega) ?_
      intro σ hm hF
      refine z_al_2_0 (pc := 41) cx dX7_comeIntoForce_41 ?_
      refine m_get (pc := 42) cx hm fl_X7_56 rfl dX7_comeIntoForce_42 ?_
      refine z_il_2_1 (pc := 45) cx dX7_comeIntoForce_45 ?_
      refine z_iconst (pc := 46) cx dX7_comeIntoForce_46 ?_
      refine m_iast (pc := 47) (k := 19) (L := 5) cx hm hF ⟨rfl, rfl, by decide, by decide⟩ dX7_comeIntoForce_47 (by omega) ?_
      intro σ hm hF
      refine z_al_2_0 (pc := 48) cx dX7_comeIntoForce_48 ?_
      refine m_get (pc := 49) cx hm fl_X7_59 rfl dX7_comeIntoForce_49 ?_
      refine z_il_2_1 (pc := 52) cx dX7_comeIntoForce_52 ?_
      refine z_iconst (pc := 53) cx dX7_comeIntoForce_53 ?_
      refine m_iast (pc := 54) (k := 20) (L := 5) cx hm hF ⟨rfl, rfl, by decide, by decide⟩ dX7_comeIntoForce_54 (by omega) ?_
      intro σ hm hF
      refine z_al_2_0 (pc := 55) cx dX7_comeIntoForce_55 ?_
      refine m_get (pc := 56) cx hm fl_X7_62 rfl dX7_comeIntoForce_56 ?_
      refine z_il_2_1 (pc := 59) cx dX7_comeIntoForce_59 ?_
      refine z_iconst (pc := 60) cx dX7_comeIntoForce_60 ?_
      refine m_iast (pc := 61) (k := 21) (L := 5) cx hm hF ⟨rfl, rfl, by decide, by decide⟩ dX7_comeIntoForce_61 (by omega) ?_
      intro σ hm hF
      refine z_al_2_0 (pc := 62) cx dX7_comeIntoForce_62 ?_
      refine m_get (pc := 63) cx hm fl_X7_65 rfl dX7_comeIntoForce_63 ?_
      refine z_il_2_1 (pc := 66) cx dX7_comeIntoForce_66 ?_
      refine z_iconst (pc := 67) cx dX7_comeIntoForce_67 ?_
      refine m_iast (pc := 68) (k := 22) (L := 5) cx hm hF ⟨rfl, rfl, by decide, by decide⟩ dX7_comeIntoForce_68 (by omega) ?_
      intro σ hm hF
      refine z_ii_2_1 (pc := 69) cx dX7_comeIntoForce_69 ?_
      refine g_goto (pc := 72) (tgt := 15) cx (by decide) dX7_comeIntoForce_72 ?_
      exact ih (n - 1) (by omega) (i + 1) σ (by omega) hm hF
  exact J15 5 0 σ rfl hm hF

set_option maxRecDepth 100000 in
set_option maxHeartbeats 4000000 in
theorem c_X7_remove {lc : Launch} {dA : Nat → ClassId} {ad : Nat → Nat} {σ0 : hS} {h : Nat} {S : mS} (hm : mat dA ad σ0 h S) {f : Int} (hf : 0 ≤ f ∧ f < S 23 0) (hn : S 23 0 ≤ 64) : gM lc dA yX7_remove (.code yX7_remove cX7_remove 3 none) { frames := 0, cells := 0, slots := 0, locals := 0 } σ0 [.ref h, .int (iI f)] (mP dA ad h σ0 none (remF S f)) nX := by
  refine gM_body (by decide +kernel) (by simp [Value.category]) (Nat.le_of_ble_eq_true rfl) (fun Γ hdA cx rx nx => ?_)
  subst hdA
  have cx : CX lc Γ cX7_remove RX7 3 { frames := 0, cells := 0, slots := 0, locals := 0 } := cx
  show G Γ σ0 0 0 0 [some (.ref h), some (.int (iI f)), none] []
  have hF : mFr ad h σ0 σ0 := mFr.rf
  refine z_al_3_0 (pc := 0) cx dX7_remove_0 ?_
  refine g_dup (pc := 1) cx rfl dX7_remove_1 ?_
  refine m_get (pc := 2) cx hm fl_X7_138 rfl dX7_remove_2 ?_
  refine z_iconst (pc := 5) cx dX7_remove_5 ?_
  refine z_isub (pc := 6) cx dX7_remove_6 ?_
  refine m_put (pc := 7) cx hm hF fl_X7_138 ⟨rfl, rfl, by decide, rfl⟩ (mFs_23 _ _ _) dX7_remove_7 ?_
  intro σ hm hF
  refine z_il_3_1 (pc := 10) cx dX7_remove_10 ?_
  refine z_is_3_2 (pc := 11) cx dX7_remove_11 ?_
  have J12 : ∀ (n k : Nat) (T : mS) (σ : hS), k + n = (S 23 0 - 1 - f).toNat → T = itN k (rm1 f) (mw S 23 0 (S 23 0 - 1)) → mat (gdA Γ) ad σ h T → mFr ad h σ0 σ → G Γ σ 0 0 12 [some (.ref h), some (.int (iI (f))), some (.int (iI (f + (k : Int))))] [] := by
    intro n
    induction n using Nat.strongRecOn with
    | _ n ih =>
    intro k T σ hkn hT hm hF
    have e23 : T 23 0 = S 23 0 - 1 := by rw [hT, (rm_at f k _).1 23 (by decide) (by decide), mw_s]
    refine z_il_3_2 (pc := 12) cx dX7_remove_12 ?_
    refine z_al_3_0 (pc := 13) cx dX7_remove_13 ?_
    refine m_get (pc := 14) cx hm fl_X7_138 rfl dX7_remove_14 ?_
    refine z_icmp_ge (pc := 17) (tgt := 54) cx (by omega) (by decide) dX7_remove_17 (fun c_17 => ?_) (fun c_17 => ?_)
    · skip
      exact g_return (pc := 54) cx rx (by decide) (by decide) dX7_remove_54 ⟨rfl, by unfold remF; rw [show (S 23 0 - 1 - f).toNat = k by omega, ← hT]; exact hm, hF⟩
    · skip
      refine z_al_3_0 (pc := 20) cx dX7_remove_20 ?_
      refine m_get (pc := 21) cx hm fl_X7_68 rfl dX7_remove_21 ?_
      refine z_il_3_2 (pc := 24) cx dX7_remove_24 ?_
      refine z_al_3_0 (pc := 25) cx dX7_remove_25 ?_
      refine m_get (pc := 26) cx hm fl_X7_68 rfl dX7_remove_26 ?_
      refine z_il_3_2 (pc := 29) cx dX7_remove_29 ?_
      refine z_iconst (pc := 30) cx dX7_remove_30 ?_
      refine z_iadd (pc := 31) cx dX7_remove_31 ?_
      refine m_iald (pc := 32) (k := 24) (L := 64) cx hm ⟨rfl, rfl, by decide, by decide⟩ dX7_remove_32 (by omega) ?_
      refine m_iast (pc := 33) (k := 24) (L := 64) cx hm hF ⟨rfl, rfl, by decide, by decide⟩ dX7_remove_33 (by omega) ?_
      intro σ hm hF
      refine z_al_3_0 (pc := 34) cx dX7_remove_34 ?_
      refine m_get (pc := 35) cx hm fl_X7_71 rfl dX7_remove_35 ?_
      refine z_il_3_2 (pc := 38) cx dX7_remove_38 ?_
      refine z_al_3_0 (pc := 39) cx dX7_remove_39 ?_
      refine m_get (pc := 40) cx hm fl_X7_71 rfl dX7_remove_40 ?_
      refine z_il_3_2 (pc := 43) cx dX7_remove_43 ?_
      refine z_iconst (pc := 44) cx dX7_remove_44 ?_
      refine z_iadd (pc := 45) cx dX7_remove_45 ?_
      refine m_iald (pc := 46) (k := 25) (L := 64) cx hm ⟨rfl, rfl, by decide, by decide⟩ dX7_remove_46 (by omega) ?_
      refine m_iast (pc := 47) (k := 25) (L := 64) cx hm hF ⟨rfl, rfl, by decide, by decide⟩ dX7_remove_47 (by omega) ?_
      intro σ hm hF
      refine z_ii_3_2 (pc := 48) cx dX7_remove_48 ?_
      refine g_goto (pc := 51) (tgt := 12) cx (by decide) dX7_remove_51 ?_
      refine g_l (ih (n - 1) (by omega) (k + 1) _ σ (by omega) (show _ = rm1 f (itN k (rm1 f) _) k by rw [← hT]; rfl) hm hF) ?_
      rw [show f + (k : Int) + 1 = f + ((k + 1 : Nat) : Int) by omega]
  refine g_l (J12 _ 0 _ σ (Nat.zero_add _) rfl hm hF) ?_
  simp
