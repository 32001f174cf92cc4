/-! contracts (walks laid by program) -/
set_option maxRecDepth 100000 in
set_option maxHeartbeats 4000000 in
theorem c_X1_append {lc : Launch} {dA : Nat → ClassId} {cd : Nat → Nat} {σ0 : hS} {C : mS} {R : cR} (hc : cat dA cd σ0 C R) {l : Nat} (hl : l < 6) (hw : PtW C l) {s : Int} : gM lc dA yX1_append (.code yX1_append cX1_append 2 none) { frames := 0, cells := 0, slots := 0, locals := 0 } σ0 [.ref (cd (24 + l)), .int (iI s)] (cP dA cd σ0 none (apF C l s) (R)) nX := by
  refine gM_body (by decide +kernel) (by simp [Value.category]) (Nat.le_of_ble_eq_true rfl) (fun Γ hdA cx rx nx => ?_)
  subst hdA
  have cx : CX lc Γ cX1_append RX1 2 { frames := 0, cells := 0, slots := 0, locals := 0 } := cx
  show G Γ σ0 0 0 0 [some (.ref (cd (24 + l))), some (.int (iI s))] []
  have hF : cFr cd σ0 σ0 := cFr.rf
  obtain ⟨p0, p1, p3⟩ := id hw
  refine z_al_2_0 (pc := 0) cx dX1_append_0 ?_
  refine g_getf (pc := 1) cx fl_X1_15 (hc.pt (by omega)) rfl dX1_append_1 ?_
  refine z_iconst (pc := 4) cx dX1_append_4 ?_
  refine z_icmp_ge (pc := 5) (tgt := 28) cx (by omega) (by decide) dX1_append_5 (fun c_5 => ?_) (fun c_5 => ?_)
  · skip
    exact g_return (pc := 28) cx rx (by decide) (by decide) dX1_append_28 ⟨rfl, (by
      unfold apF
      first
      | (rw [if_pos c_5]; have q := hc; rw [mw_k (show 24 + l ≠ 24 + l + 6 by omega)] at q; exact q)
      | (rw [if_neg (by omega)]; exact hc)), hF⟩
  · skip
    refine z_al_2_0 (pc := 8) cx dX1_append_8 ?_
    refine g_getf (pc := 9) cx fl_X1_9 (hc.pt (by omega)) rfl dX1_append_9 ?_
    refine z_al_2_0 (pc := 12) cx dX1_append_12 ?_
    refine g_getf (pc := 13) cx fl_X1_15 (hc.pt (by omega)) rfl dX1_append_13 ?_
    refine z_il_2_1 (pc := 16) cx dX1_append_16 ?_
    refine c_iast (pc := 17) (L := 4) cx hc hF (cIL_sz (by omega)) (by decide) (by omega) dX1_append_17 (by omega) ?_
    intro σ hc hF
    refine z_al_2_0 (pc := 18) cx dX1_append_18 ?_
    refine g_dup (pc := 19) cx rfl dX1_append_19 ?_
    refine g_getf (pc := 20) cx fl_X1_15 (hc.pt (by omega)) rfl dX1_append_20 ?_
    refine z_iconst (pc := 23) cx dX1_append_23 ?_
    refine z_iadd (pc := 24) cx dX1_append_24 ?_
    refine c_put (pc := 25) cx hc hF (by omega) fl_X1_15 rfl (cE_pt (by omega)) (show (1 : Nat) < 5 by decide) (⟨rfl, rfl⟩) (ptS1 (by omega)) mw_ne dX1_append_25 ?_
    intro σ hc hF
    exact g_return (pc := 28) cx rx (by decide) (by decide) dX1_append_28 ⟨rfl, (by
      unfold apF
      first
      | (rw [if_pos c_5]; have q := hc; rw [mw_k (show 24 + l ≠ 24 + l + 6 by omega)] at q; exact q)
      | (rw [if_neg (by omega)]; exact hc)), hF⟩

set_option maxRecDepth 100000 in
set_option maxHeartbeats 4000000 in
theorem c_X1_canBegin {lc : Launch} {dA : Nat → ClassId} {cd : Nat → Nat} {σ0 : hS} {C : mS} {R : cR} (hc : cat dA cd σ0 C R) {l : Nat} (hl : l < 6) (hw : PtW C l) : gM lc dA yX1_canBegin (.code yX1_canBegin cX1_canBegin 1 (some .boolean)) { frames := 0, cells := 0, slots := 0, locals := 0 } σ0 [.ref (cd (24 + l))] (sP σ0 (some (.int (iI (bz (cbF C l)))))) nX := by
  refine gM_body (by decide +kernel) (by simp [Value.category]) (Nat.le_of_ble_eq_true rfl) (fun Γ hdA cx rx nx => ?_)
  subst hdA
  have cx : CX lc Γ cX1_canBegin RX1 1 { frames := 0, cells := 0, slots := 0, locals := 0 } := cx
  show G Γ σ0 0 0 0 [some (.ref (cd (24 + l)))] []
  have hF : cFr cd σ0 σ0 := cFr.rf
  obtain ⟨p0, p1, p3⟩ := id hw
  refine z_al_1_0 (pc := 0) cx dX1_canBegin_0 ?_
  refine g_getf (pc := 1) cx fl_X1_19 (hc.pt (by omega)) rfl dX1_canBegin_1 ?_
  refine z_if_ne (pc := 4) (tgt := 25) cx (by omega) (by decide) dX1_canBegin_4 (fun c_4 => ?_) (fun c_4 => ?_)
  · skip
    refine z_iconst (pc := 25) cx dX1_canBegin_25 ?_
    exact (z_retb (pc := 26) (b := cbF C l) cx rx (by decide) (by decide) dX1_canBegin_26 (by unfold cbF; rw [← Bool.decide_and, ← Bool.decide_and]; exact bzd (by omega)) ⟨rfl, rfl⟩)
  · skip
    refine z_al_1_0 (pc := 7) cx dX1_canBegin_7 ?_
    refine g_getf (pc := 8) cx fl_X1_22 (hc.pt (by omega)) rfl dX1_canBegin_8 ?_
    refine z_if_ne (pc := 11) (tgt := 25) cx (by omega) (by decide) dX1_canBegin_11 (fun c_11 => ?_) (fun c_11 => ?_)
    · skip
      refine z_iconst (pc := 25) cx dX1_canBegin_25 ?_
      exact (z_retb (pc := 26) (b := cbF C l) cx rx (by decide) (by decide) dX1_canBegin_26 (by unfold cbF; rw [← Bool.decide_and, ← Bool.decide_and]; exact bzd (by omega)) ⟨rfl, rfl⟩)
    · skip
      refine z_al_1_0 (pc := 14) cx dX1_canBegin_14 ?_
      refine g_getf (pc := 15) cx fl_X1_15 (hc.pt (by omega)) rfl dX1_canBegin_15 ?_
      refine z_if_le (pc := 18) (tgt := 25) cx (by omega) (by decide) dX1_canBegin_18 (fun c_18 => ?_) (fun c_18 => ?_)
      · skip
        refine z_iconst (pc := 25) cx dX1_canBegin_25 ?_
        exact (z_retb (pc := 26) (b := cbF C l) cx rx (by decide) (by decide) dX1_canBegin_26 (by unfold cbF; rw [← Bool.decide_and, ← Bool.decide_and]; exact bzd (by omega)) ⟨rfl, rfl⟩)
      · skip
        refine z_iconst (pc := 21) cx dX1_canBegin_21 ?_
        refine g_goto (pc := 22) (tgt := 26) cx (by decide) dX1_canBegin_22 ?_
        exact (z_retb (pc := 26) (b := cbF C l) cx rx (by decide) (by decide) dX1_canBegin_26 (by unfold cbF; rw [← Bool.decide_and, ← Bool.decide_and]; exact bzd (by omega)) ⟨rfl, rfl⟩)

set_option maxRecDepth 100000 in
set_option maxHeartbeats 4000000 in
theorem c_X1_beginFirst {lc : Launch} {dA : Nat → ClassId} {cd : Nat → Nat} {σ0 : hS} {C : mS} {R : cR} (hc : cat dA cd σ0 C R) {l : Nat} (hl : l < 6) (hw : PtW C l) (hw1 : 0 < C (24 + l) 1) : gM lc dA yX1_beginFirst (.code yX1_beginFirst cX1_beginFirst 2 none) { frames := 0, cells := 0, slots := 0, locals := 0 } σ0 [.ref (cd (24 + l))] (cP dA cd σ0 none (bfF C l) (R)) nX := by
  refine gM_body (by decide +kernel) (by simp [Value.category]) (Nat.le_of_ble_eq_true rfl) (fun Γ hdA cx rx nx => ?_)
  subst hdA
  have cx : CX lc Γ cX1_beginFirst RX1 2 { frames := 0, cells := 0, slots := 0, locals := 0 } := cx
  show G Γ σ0 0 0 0 [some (.ref (cd (24 + l))), none] []
  have hF : cFr cd σ0 σ0 := cFr.rf
  obtain ⟨p0, p1, p3⟩ := id hw
  refine z_al_2_0 (pc := 0) cx dX1_beginFirst_0 ?_
  refine z_al_2_0 (pc := 1) cx dX1_beginFirst_1 ?_
  refine g_getf (pc := 2) cx fl_X1_9 (hc.pt (by omega)) rfl dX1_beginFirst_2 ?_
  refine z_iconst (pc := 5) cx dX1_beginFirst_5 ?_
  refine z_iald (pc := 6) (N := 4) cx (hc.sz (by omega)) dX1_beginFirst_6 (by omega) ?_
  refine c_put (pc := 7) cx hc hF (by omega) fl_X1_19 rfl (cE_pt (by omega)) (show (3 : Nat) < 5 by decide) (⟨rfl, rfl⟩) (ptS3 (by omega)) mw_ne dX1_beginFirst_7 ?_
  intro σ hc hF
  refine z_iconst (pc := 10) cx dX1_beginFirst_10 ?_
  refine z_is_2_1 (pc := 11) cx dX1_beginFirst_11 ?_
  have J12 : ∀ (n j : Nat) (T : mS) (σ : hS), j + n = (C (24 + l) 1 - 1).toNat → T = itN j (bf1 l) (mw C (24 + l) 3 (C (24 + l + 6) 0)) → cat (gdA Γ) cd σ T R → cFr cd σ0 σ → G Γ σ 0 0 12 [some (.ref (cd (24 + l))), some (.int (iI (1 + (j : Int))))] [] := by
    intro n
    induction n using Nat.strongRecOn with
    | _ n ih =>
    intro j T σ hjn hT hc hF
    have e1 : T (24 + l) 1 = C (24 + l) 1 := by rw [hT, bf_at l j _ _ (by omega), mw_e (by decide)]
    refine z_il_2_1 (pc := 12) cx dX1_beginFirst_12 ?_
    refine z_al_2_0 (pc := 13) cx dX1_beginFirst_13 ?_
    refine g_getf (pc := 14) cx fl_X1_15 (hc.pt (by omega)) rfl dX1_beginFirst_14 ?_
    refine z_icmp_ge (pc := 17) (tgt := 40) cx (by omega) (by decide) dX1_beginFirst_17 (fun c_17 => ?_) (fun c_17 => ?_)
    · skip
      refine z_al_2_0 (pc := 40) cx dX1_beginFirst_40 ?_
      refine g_dup (pc := 41) cx rfl dX1_beginFirst_41 ?_
      refine g_getf (pc := 42) cx fl_X1_15 (hc.pt (by omega)) rfl dX1_beginFirst_42 ?_
      refine z_iconst (pc := 45) cx dX1_beginFirst_45 ?_
      refine z_isub (pc := 46) cx dX1_beginFirst_46 ?_
      refine c_put (pc := 47) cx hc hF (by omega) fl_X1_15 rfl (cE_pt (by omega)) (show (1 : Nat) < 5 by decide) (⟨rfl, rfl⟩) (ptS1 (by omega)) mw_ne dX1_beginFirst_47 ?_
      intro σ hc hF
      rw [e1] at hc
      exact g_return (pc := 50) cx rx (by decide) (by decide) dX1_beginFirst_50 ⟨rfl, (by unfold bfF; rw [show (C (24 + l) 1 - 1).toNat = j by omega, ← hT]; exact hc), hF⟩
    · skip
      refine z_al_2_0 (pc := 20) cx dX1_beginFirst_20 ?_
      refine g_getf (pc := 21) cx fl_X1_9 (hc.pt (by omega)) rfl dX1_beginFirst_21 ?_
      refine z_il_2_1 (pc := 24) cx dX1_beginFirst_24 ?_
      refine z_iconst (pc := 25) cx dX1_beginFirst_25 ?_
      refine z_isub (pc := 26) cx dX1_beginFirst_26 ?_
      refine z_al_2_0 (pc := 27) cx dX1_beginFirst_27 ?_
      refine g_getf (pc := 28) cx fl_X1_9 (hc.pt (by omega)) rfl dX1_beginFirst_28 ?_
      refine z_il_2_1 (pc := 31) cx dX1_beginFirst_31 ?_
      refine z_iald (pc := 32) (N := 4) cx (hc.sz (by omega)) dX1_beginFirst_32 (by omega) ?_
      refine c_iast (pc := 33) (L := 4) cx hc hF (cIL_sz (by omega)) (by decide) (by omega) dX1_beginFirst_33 (by omega) ?_
      intro σ hc hF
      refine z_ii_2_1 (pc := 34) cx dX1_beginFirst_34 ?_
      refine g_goto (pc := 37) (tgt := 12) cx (by decide) dX1_beginFirst_37 ?_
      refine g_l (ih (n - 1) (by omega) (j + 1) _ σ (by omega) (show _ = bf1 l (itN j (bf1 l) _) j by rw [← hT]; rfl) hc hF) ?_
      rw [show 1 + (j : Int) + 1 = 1 + ((j + 1 : Nat) : Int) by omega]
  exact J12 _ 0 _ σ (Nat.zero_add _) rfl hc hF

set_option maxRecDepth 100000 in
set_option maxHeartbeats 4000000 in
theorem c_X1_endTick {lc : Launch} {dA : Nat → ClassId} {cd : Nat → Nat} {σ0 : hS} {C : mS} {R : cR} (hc : cat dA cd σ0 C R) {l : Nat} (hl : l < 6) (hw : PtW C l) : gM lc dA yX1_endTick (.code yX1_endTick cX1_endTick 1 none) { frames := 0, cells := 0, slots := 0, locals := 0 } σ0 [.ref (cd (24 + l))] (cP dA cd σ0 none (etF C l) (R)) nX := by
  refine gM_body (by decide +kernel) (by simp [Value.category]) (Nat.le_of_ble_eq_true rfl) (fun Γ hdA cx rx nx => ?_)
  subst hdA
  have cx : CX lc Γ cX1_endTick RX1 1 { frames := 0, cells := 0, slots := 0, locals := 0 } := cx
  show G Γ σ0 0 0 0 [some (.ref (cd (24 + l)))] []
  have hF : cFr cd σ0 σ0 := cFr.rf
  obtain ⟨p0, p1, p3⟩ := id hw
  refine z_al_1_0 (pc := 0) cx dX1_endTick_0 ?_
  refine g_getf (pc := 1) cx fl_X1_19 (hc.pt (by omega)) rfl dX1_endTick_1 ?_
  refine z_if_le (pc := 4) (tgt := 34) cx (by omega) (by decide) dX1_endTick_4 (fun c_4 => ?_) (fun c_4 => ?_)
  · skip
    exact g_return (pc := 34) cx rx (by decide) (by decide) dX1_endTick_34 ⟨rfl, (by
      unfold etF
      first
      | (rw [if_neg (by omega)]; exact hc)
      | (rw [mw_s] at c_21; rw [if_pos (by omega), if_pos c_21]; have q := hc; rw [mw_e (show (4 : Int) ≠ 3 by decide)] at q; exact q)
      | (rw [mw_s] at c_21; rw [if_pos (by omega), if_neg c_21]; exact hc)), hF⟩
  · skip
    refine z_al_1_0 (pc := 7) cx dX1_endTick_7 ?_
    refine g_dup (pc := 8) cx rfl dX1_endTick_8 ?_
    refine g_getf (pc := 9) cx fl_X1_19 (hc.pt (by omega)) rfl dX1_endTick_9 ?_
    refine z_iconst (pc := 12) cx dX1_endTick_12 ?_
    refine z_isub (pc := 13) cx dX1_endTick_13 ?_
    refine c_put (pc := 14) cx hc hF (by omega) fl_X1_19 rfl (cE_pt (by omega)) (show (3 : Nat) < 5 by decide) (⟨rfl, rfl⟩) (ptS3 (by omega)) mw_ne dX1_endTick_14 ?_
    intro σ hc hF
    refine z_al_1_0 (pc := 17) cx dX1_endTick_17 ?_
    refine g_getf (pc := 18) cx fl_X1_19 (hc.pt (by omega)) rfl dX1_endTick_18 ?_
    refine z_if_ne (pc := 21) (tgt := 34) cx (by rw [mw_s]; omega) (by decide) dX1_endTick_21 (fun c_21 => ?_) (fun c_21 => ?_)
    · skip
      exact g_return (pc := 34) cx rx (by decide) (by decide) dX1_endTick_34 ⟨rfl, (by
        unfold etF
        first
        | (rw [if_neg (by omega)]; exact hc)
        | (rw [mw_s] at c_21; rw [if_pos (by omega), if_pos c_21]; have q := hc; rw [mw_e (show (4 : Int) ≠ 3 by decide)] at q; exact q)
        | (rw [mw_s] at c_21; rw [if_pos (by omega), if_neg c_21]; exact hc)), hF⟩
    · skip
      refine z_al_1_0 (pc := 24) cx dX1_endTick_24 ?_
      refine g_dup (pc := 25) cx rfl dX1_endTick_25 ?_
      refine g_getf (pc := 26) cx fl_X1_26 (hc.pt (by omega)) rfl dX1_endTick_26 ?_
      refine z_iconst (pc := 29) cx dX1_endTick_29 ?_
      refine z_iadd (pc := 30) cx dX1_endTick_30 ?_
      refine c_put (pc := 31) cx hc hF (by omega) fl_X1_26 rfl (cE_pt (by omega)) (show (4 : Nat) < 5 by decide) (⟨rfl, rfl⟩) (ptS4 (by omega)) mw_ne dX1_endTick_31 ?_
      intro σ hc hF
      exact g_return (pc := 34) cx rx (by decide) (by decide) dX1_endTick_34 ⟨rfl, (by
        unfold etF
        first
        | (rw [if_neg (by omega)]; exact hc)
        | (rw [mw_s] at c_21; rw [if_pos (by omega), if_pos c_21]; have q := hc; rw [mw_e (show (4 : Int) ≠ 3 by decide)] at q; exact q)
        | (rw [mw_s] at c_21; rw [if_pos (by omega), if_neg c_21]; exact hc)), hF⟩

set_option maxRecDepth 100000 in
set_option maxHeartbeats 4000000 in
theorem c_X5_startAnew {lc : Launch} {dA : Nat → ClassId} {cd : Nat → Nat} {σ0 : hS} {C : mS} {R : cR} (hc : cat dA cd σ0 C R) {i : Nat} (hi : i < 5) {a : Nat} : gM lc dA yX5_startAnew (.code yX5_startAnew cX5_startAnew 2 none) { frames := 0, cells := 0, slots := 0, locals := 0 } σ0 [.ref (cd (13 + i)), .ref a] (cP dA cd σ0 none (saF C i) (rwr R (13 + i) 0 (some a))) nX := by
  refine gM_body (by decide +kernel) (by simp [Value.category]) (Nat.le_of_ble_eq_true rfl) (fun Γ hdA cx rx nx => ?_)
  subst hdA
  have cx : CX lc Γ cX5_startAnew RX5 2 { frames := 0, cells := 0, slots := 0, locals := 0 } := cx
  show G Γ σ0 0 0 0 [some (.ref (cd (13 + i))), some (.ref a)] []
  have hF : cFr cd σ0 σ0 := cFr.rf
  refine z_al_2_0 (pc := 0) cx dX5_startAnew_0 ?_
  refine z_al_2_1 (pc := 1) cx dX5_startAnew_1 ?_
  refine c_putR (pc := 2) (r := some a) cx hc hF (by omega) fl_X5_15 rfl (cE_tk (by omega)) (show (0 : Nat) < 10 by decide) ⟨rfl, rfl⟩ (tkR0 (by omega)) rwr_ne dX5_startAnew_2 ?_
  intro σ hc hF
  refine z_al_2_0 (pc := 5) cx dX5_startAnew_5 ?_
  refine z_iconst (pc := 6) cx dX5_startAnew_6 ?_
  refine c_put (pc := 7) cx hc hF (by omega) fl_X5_19 rfl (cE_tk (by omega)) (show (1 : Nat) < 10 by decide) (nzb (by omega)) (tkS1 (by omega)) mw_ne dX5_startAnew_7 ?_
  intro σ hc hF
  refine z_al_2_0 (pc := 10) cx dX5_startAnew_10 ?_
  refine z_iconst (pc := 11) cx dX5_startAnew_11 ?_
  refine c_put (pc := 12) cx hc hF (by omega) fl_X5_23 rfl (cE_tk (by omega)) (show (2 : Nat) < 10 by decide) (⟨rfl, rfl⟩) (tkS2 (by omega)) mw_ne dX5_startAnew_12 ?_
  intro σ hc hF
  refine z_al_2_0 (pc := 15) cx dX5_startAnew_15 ?_
  refine z_iconst (pc := 16) cx dX5_startAnew_16 ?_
  refine c_put (pc := 17) cx hc hF (by omega) fl_X5_27 rfl (cE_tk (by omega)) (show (3 : Nat) < 10 by decide) (nzb (by omega)) (tkS3 (by omega)) mw_ne dX5_startAnew_17 ?_
  intro σ hc hF
  refine z_al_2_0 (pc := 20) cx dX5_startAnew_20 ?_
  refine z_iconst (pc := 21) cx dX5_startAnew_21 ?_
  refine c_put (pc := 22) cx hc hF (by omega) fl_X5_30 rfl (cE_tk (by omega)) (show (4 : Nat) < 10 by decide) (⟨rfl, rfl⟩) (tkS4 (by omega)) mw_ne dX5_startAnew_22 ?_
  intro σ hc hF
  refine z_al_2_0 (pc := 25) cx dX5_startAnew_25 ?_
  refine z_iconst (pc := 26) cx dX5_startAnew_26 ?_
  refine c_put (pc := 27) cx hc hF (by omega) fl_X5_33 rfl (cE_tk (by omega)) (show (5 : Nat) < 10 by decide) (⟨rfl, rfl⟩) (tkS5 (by omega)) mw_ne dX5_startAnew_27 ?_
  intro σ hc hF
  refine z_al_2_0 (pc := 30) cx dX5_startAnew_30 ?_
  refine z_iconst (pc := 31) cx dX5_startAnew_31 ?_
  refine c_put (pc := 32) cx hc hF (by omega) fl_X5_36 rfl (cE_tk (by omega)) (show (6 : Nat) < 10 by decide) (⟨rfl, rfl⟩) (tkS6 (by omega)) mw_ne dX5_startAnew_32 ?_
  intro σ hc hF
  refine z_al_2_0 (pc := 35) cx dX5_startAnew_35 ?_
  refine z_iconst (pc := 36) cx dX5_startAnew_36 ?_
  refine c_put (pc := 37) cx hc hF (by omega) fl_X5_39 rfl (cE_tk (by omega)) (show (7 : Nat) < 10 by decide) (⟨rfl, rfl⟩) (tkS7 (by omega)) mw_ne dX5_startAnew_37 ?_
  intro σ hc hF
  refine z_al_2_0 (pc := 40) cx dX5_startAnew_40 ?_
  refine z_iconst (pc := 41) cx dX5_startAnew_41 ?_
  refine c_put (pc := 42) cx hc hF (by omega) fl_X5_42 rfl (cE_tk (by omega)) (show (8 : Nat) < 10 by decide) (⟨rfl, rfl⟩) (tkS8 (by omega)) mw_ne dX5_startAnew_42 ?_
  intro σ hc hF
  exact g_return (pc := 45) cx rx (by decide) (by decide) dX5_startAnew_45 ⟨rfl, hc, hF⟩

set_option maxRecDepth 100000 in
set_option maxHeartbeats 4000000 in
theorem c_X5_speak {lc : Launch} {dA : Nat → ClassId} {cd : Nat → Nat} {σ0 : hS} {C : mS} {R : cR} (hc : cat dA cd σ0 C R) {i : Nat} (hi : i < 5) {a : Nat} {P : mS} (hR : R (13 + i) 0 = some a) (hp : isPS dA cd σ0 a P) (hw : PW P) {t : Int} (ht0 : 0 ≤ t ∧ t ≤ 1000000) (ht : TkW C i) : gM lc dA yX5_speak (.code yX5_speak cX5_speak 2 none) { frames := 1, cells := 0, slots := 0, locals := 21 } σ0 [.ref (cd (13 + i)), .int (iI t)] (cP dA cd σ0 none (spk C i P t) (R)) nX := by
  refine gM_body (by decide +kernel) (by simp [Value.category]) (Nat.le_of_ble_eq_true rfl) (fun Γ hdA cx rx nx => ?_)
  subst hdA
  have cx : CX lc Γ cX5_speak RX5 2 { frames := 1, cells := 0, slots := 0, locals := 21 } := cx
  show G Γ σ0 0 0 0 [some (.ref (cd (13 + i))), some (.int (iI t))] []
  have hF : cFr cd σ0 σ0 := cFr.rf
  obtain ⟨pa, ba, ea, sa, q0, q1, q2, q3, q4⟩ := id hp
  obtain ⟨w8, w0, w1, w2, w3, w7⟩ := id hw
  obtain ⟨t1, t2, t3, t4, t5⟩ := id ht
  refine z_al_2_0 (pc := 0) cx dX5_speak_0 ?_
  refine g_getf (pc := 1) cx fl_X5_19 (hc.tk (by omega)) rfl dX5_speak_1 ?_
  refine z_if_eq (pc := 4) (tgt := 32) cx (by omega) (by decide) dX5_speak_4 (fun c_4 => ?_) (fun c_4 => ?_)
  · skip
    exact g_return (pc := 32) cx rx (by decide) (by decide) dX5_speak_32 ⟨rfl, (by
      have q : spkB C i P t = false := by
        unfold spkB
        first
        | (rw [decide_eq_false (p := C (13 + i) 1 ≠ 0) (fun q => q c_4)]; rfl)
        | (rw [decide_eq_false (show ¬ 0 ≤ t - C (13 + i) 2 by omega), Bool.and_false]; rfl)
        | (rw [begAt, bz_0.mp c_29, Bool.and_false])
      unfold spk
      rw [if_neg (by rw [q]; decide)]
      exact hc), hF⟩
  · skip
    refine z_il_2_1 (pc := 7) cx dX5_speak_7 ?_
    refine z_al_2_0 (pc := 8) cx dX5_speak_8 ?_
    refine g_getf (pc := 9) cx fl_X5_23 (hc.tk (by omega)) rfl dX5_speak_9 ?_
    refine z_isub (pc := 12) cx dX5_speak_12 ?_
    refine z_if_lt (pc := 13) (tgt := 32) cx (by omega) (by decide) dX5_speak_13 (fun c_13 => ?_) (fun c_13 => ?_)
    · skip
      exact g_return (pc := 32) cx rx (by decide) (by decide) dX5_speak_32 ⟨rfl, (by
        have q : spkB C i P t = false := by
          unfold spkB
          first
          | (rw [decide_eq_false (p := C (13 + i) 1 ≠ 0) (fun q => q c_4)]; rfl)
          | (rw [decide_eq_false (show ¬ 0 ≤ t - C (13 + i) 2 by omega), Bool.and_false]; rfl)
          | (rw [begAt, bz_0.mp c_29, Bool.and_false])
        unfold spk
        rw [if_neg (by rw [q]; decide)]
        exact hc), hF⟩
    · skip
      refine z_al_2_0 (pc := 16) cx dX5_speak_16 ?_
      refine g_getf (pc := 17) (v := .ref a) cx fl_X5_15 (hc.tk (by omega)) (by show some (va_rf (R (13 + i) 0)) = _; rw [hR]; rfl) dX5_speak_17 ?_
      refine z_il_2_1 (pc := 20) cx dX5_speak_20 ?_
      refine z_al_2_0 (pc := 21) cx dX5_speak_21 ?_
      refine g_getf (pc := 22) cx fl_X5_23 (hc.tk (by omega)) rfl dX5_speak_22 ?_
      refine z_isub (pc := 25) cx dX5_speak_25 ?_
      refine s_callV (pc := 26) cx lk_X5_45 (c_X0_beginsAt (hp.fr hF) hw (by omega)) (q0.fr hF).1 rfl gy_X0_beginsAt ⟨⟨by decide, by decide⟩, by decide, by decide⟩ ⟨rfl, rfl⟩ rfl rfl (Nat.le_of_ble_eq_true rfl) dX5_speak_26 ?_
      show G Γ _ _ _ 29 _ (.int _ :: _)
      refine z_if_ne (pc := 29) (tgt := 33) cx (by have := bz_r (begAt P (t - C (13 + i) 2)); unfold begAt at this; omega) (by decide) dX5_speak_29 (fun c_29 => ?_) (fun c_29 => ?_)
      · skip
        refine z_al_2_0 (pc := 33) cx dX5_speak_33 ?_
        refine g_getf (pc := 34) cx fl_X5_23 (hc.tk (by omega)) rfl dX5_speak_34 ?_
        refine z_if_gt (pc := 37) (tgt := 47) cx (by omega) (by decide) dX5_speak_37 (fun c_37 => ?_) (fun c_37 => ?_)
        · skip
          refine z_al_2_0 (pc := 47) cx dX5_speak_47 ?_
          refine g_dup (pc := 48) cx rfl dX5_speak_48 ?_
          refine g_getf (pc := 49) cx fl_X5_39 (hc.tk (by omega)) rfl dX5_speak_49 ?_
          refine z_iconst (pc := 52) cx dX5_speak_52 ?_
          refine z_iadd (pc := 53) cx dX5_speak_53 ?_
          refine c_put (pc := 54) cx hc hF (by omega) fl_X5_39 rfl (cE_tk (by omega)) (show (7 : Nat) < 10 by decide) (⟨rfl, rfl⟩) (tkS7 (by omega)) mw_ne dX5_speak_54 ?_
          intro σ hc hF
          refine z_al_2_0 (pc := 57) cx dX5_speak_57 ?_
          refine z_iconst (pc := 58) cx dX5_speak_58 ?_
          refine c_put (pc := 59) cx hc hF (by omega) fl_X5_27 rfl (cE_tk (by omega)) (show (3 : Nat) < 10 by decide) (nzb (by omega)) (tkS3 (by omega)) mw_ne dX5_speak_59 ?_
          intro σ hc hF
          refine g_goto (pc := 62) (tgt := 94) cx (by decide) dX5_speak_62 ?_
          have q : spkB C i P t = true := by unfold spkB; rw [decide_eq_true (p := C (13 + i) 1 ≠ 0) c_4, decide_eq_true c_13, begAt, bz_n0.mp c_29]; rfl
          exact g_return (pc := 94) cx rx (by decide) (by decide) dX5_speak_94 ⟨rfl, (by
            unfold spk
            rw [if_pos q]
            first
            | (rw [if_pos (show spkD C i = true by unfold spkD; rw [decide_eq_true c_37]; rfl)]; exact hc)
            | (rw [if_pos (show spkD C i = true by unfold spkD; rw [decide_eq_true (p := C (13 + i) 3 ≠ 0) c_44, Bool.or_true])]; exact hc)
            | (rw [if_neg (show ¬ spkD C i = true by unfold spkD; rw [decide_eq_false (show ¬ 0 < C (13 + i) 2 by omega), decide_eq_false (p := C (13 + i) 3 ≠ 0) (fun q => q c_44)]; decide), if_neg (by omega)]; exact hc)
            | (rw [if_neg (show ¬ spkD C i = true by unfold spkD; rw [decide_eq_false (show ¬ 0 < C (13 + i) 2 by omega), decide_eq_false (p := C (13 + i) 3 ≠ 0) (fun q => q c_44)]; decide), if_pos c_71]; have q := hc; rw [mw_k (show 13 + i ≠ 13 + i + 5 by omega)] at q; exact q)), hF⟩
        · skip
          refine z_al_2_0 (pc := 40) cx dX5_speak_40 ?_
          refine g_getf (pc := 41) cx fl_X5_27 (hc.tk (by omega)) rfl dX5_speak_41 ?_
          refine z_if_eq (pc := 44) (tgt := 65) cx (by omega) (by decide) dX5_speak_44 (fun c_44 => ?_) (fun c_44 => ?_)
          · skip
            refine z_al_2_0 (pc := 65) cx dX5_speak_65 ?_
            refine g_getf (pc := 66) cx fl_X5_30 (hc.tk (by omega)) rfl dX5_speak_66 ?_
            refine z_bipush (pc := 69) cx rfl dX5_speak_69 ?_
            refine z_icmp_ge (pc := 71) (tgt := 94) cx (by omega) (by decide) dX5_speak_71 (fun c_71 => ?_) (fun c_71 => ?_)
            · skip
              have q : spkB C i P t = true := by unfold spkB; rw [decide_eq_true (p := C (13 + i) 1 ≠ 0) c_4, decide_eq_true c_13, begAt, bz_n0.mp c_29]; rfl
              exact g_return (pc := 94) cx rx (by decide) (by decide) dX5_speak_94 ⟨rfl, (by
                unfold spk
                rw [if_pos q]
                first
                | (rw [if_pos (show spkD C i = true by unfold spkD; rw [decide_eq_true c_37]; rfl)]; exact hc)
                | (rw [if_pos (show spkD C i = true by unfold spkD; rw [decide_eq_true (p := C (13 + i) 3 ≠ 0) c_44, Bool.or_true])]; exact hc)
                | (rw [if_neg (show ¬ spkD C i = true by unfold spkD; rw [decide_eq_false (show ¬ 0 < C (13 + i) 2 by omega), decide_eq_false (p := C (13 + i) 3 ≠ 0) (fun q => q c_44)]; decide), if_neg (by omega)]; exact hc)
                | (rw [if_neg (show ¬ spkD C i = true by unfold spkD; rw [decide_eq_false (show ¬ 0 < C (13 + i) 2 by omega), decide_eq_false (p := C (13 + i) 3 ≠ 0) (fun q => q c_44)]; decide), if_pos c_71]; have q := hc; rw [mw_k (show 13 + i ≠ 13 + i + 5 by omega)] at q; exact q)), hF⟩
            · skip
              refine z_al_2_0 (pc := 74) cx dX5_speak_74 ?_
              refine g_getf (pc := 75) cx fl_X5_9 (hc.tk (by omega)) rfl dX5_speak_75 ?_
              refine z_al_2_0 (pc := 78) cx dX5_speak_78 ?_
              refine g_getf (pc := 79) cx fl_X5_30 (hc.tk (by omega)) rfl dX5_speak_79 ?_
              refine z_il_2_1 (pc := 82) cx dX5_speak_82 ?_
              refine c_iast (pc := 83) (L := 8) cx hc hF (cIL_st (by omega)) (by decide) (by omega) dX5_speak_83 (by omega) ?_
              intro σ hc hF
              refine z_al_2_0 (pc := 84) cx dX5_speak_84 ?_
              refine g_dup (pc := 85) cx rfl dX5_speak_85 ?_
              refine g_getf (pc := 86) cx fl_X5_30 (hc.tk (by omega)) rfl dX5_speak_86 ?_
              refine z_iconst (pc := 89) cx dX5_speak_89 ?_
              refine z_iadd (pc := 90) cx dX5_speak_90 ?_
              refine c_put (pc := 91) cx hc hF (by omega) fl_X5_30 rfl (cE_tk (by omega)) (show (4 : Nat) < 10 by decide) (⟨rfl, rfl⟩) (tkS4 (by omega)) mw_ne dX5_speak_91 ?_
              intro σ hc hF
              have q : spkB C i P t = true := by unfold spkB; rw [decide_eq_true (p := C (13 + i) 1 ≠ 0) c_4, decide_eq_true c_13, begAt, bz_n0.mp c_29]; rfl
              exact g_return (pc := 94) cx rx (by decide) (by decide) dX5_speak_94 ⟨rfl, (by
                unfold spk
                rw [if_pos q]
                first
                | (rw [if_pos (show spkD C i = true by unfold spkD; rw [decide_eq_true c_37]; rfl)]; exact hc)
                | (rw [if_pos (show spkD C i = true by unfold spkD; rw [decide_eq_true (p := C (13 + i) 3 ≠ 0) c_44, Bool.or_true])]; exact hc)
                | (rw [if_neg (show ¬ spkD C i = true by unfold spkD; rw [decide_eq_false (show ¬ 0 < C (13 + i) 2 by omega), decide_eq_false (p := C (13 + i) 3 ≠ 0) (fun q => q c_44)]; decide), if_neg (by omega)]; exact hc)
                | (rw [if_neg (show ¬ spkD C i = true by unfold spkD; rw [decide_eq_false (show ¬ 0 < C (13 + i) 2 by omega), decide_eq_false (p := C (13 + i) 3 ≠ 0) (fun q => q c_44)]; decide), if_pos c_71]; have q := hc; rw [mw_k (show 13 + i ≠ 13 + i + 5 by omega)] at q; exact q)), hF⟩
          · skip
            refine z_al_2_0 (pc := 47) cx dX5_speak_47 ?_
            refine g_dup (pc := 48) cx rfl dX5_speak_48 ?_
            refine g_getf (pc := 49) cx fl_X5_39 (hc.tk (by omega)) rfl dX5_speak_49 ?_
            refine z_iconst (pc := 52) cx dX5_speak_52 ?_
            refine z_iadd (pc := 53) cx dX5_speak_53 ?_
            refine c_put (pc := 54) cx hc hF (by omega) fl_X5_39 rfl (cE_tk (by omega)) (show (7 : Nat) < 10 by decide) (⟨rfl, rfl⟩) (tkS7 (by omega)) mw_ne dX5_speak_54 ?_
            intro σ hc hF
            refine z_al_2_0 (pc := 57) cx dX5_speak_57 ?_
            refine z_iconst (pc := 58) cx dX5_speak_58 ?_
            refine c_put (pc := 59) cx hc hF (by omega) fl_X5_27 rfl (cE_tk (by omega)) (show (3 : Nat) < 10 by decide) (nzb (by omega)) (tkS3 (by omega)) mw_ne dX5_speak_59 ?_
            intro σ hc hF
            refine g_goto (pc := 62) (tgt := 94) cx (by decide) dX5_speak_62 ?_
            have q : spkB C i P t = true := by unfold spkB; rw [decide_eq_true (p := C (13 + i) 1 ≠ 0) c_4, decide_eq_true c_13, begAt, bz_n0.mp c_29]; rfl
            exact g_return (pc := 94) cx rx (by decide) (by decide) dX5_speak_94 ⟨rfl, (by
              unfold spk
              rw [if_pos q]
              first
              | (rw [if_pos (show spkD C i = true by unfold spkD; rw [decide_eq_true c_37]; rfl)]; exact hc)
              | (rw [if_pos (show spkD C i = true by unfold spkD; rw [decide_eq_true (p := C (13 + i) 3 ≠ 0) c_44, Bool.or_true])]; exact hc)
              | (rw [if_neg (show ¬ spkD C i = true by unfold spkD; rw [decide_eq_false (show ¬ 0 < C (13 + i) 2 by omega), decide_eq_false (p := C (13 + i) 3 ≠ 0) (fun q => q c_44)]; decide), if_neg (by omega)]; exact hc)
              | (rw [if_neg (show ¬ spkD C i = true by unfold spkD; rw [decide_eq_false (show ¬ 0 < C (13 + i) 2 by omega), decide_eq_false (p := C (13 + i) 3 ≠ 0) (fun q => q c_44)]; decide), if_pos c_71]; have q := hc; rw [mw_k (show 13 + i ≠ 13 + i + 5 by omega)] at q; exact q)), hF⟩
      · skip
        exact g_return (pc := 32) cx rx (by decide) (by decide) dX5_speak_32 ⟨rfl, (by
          have q : spkB C i P t = false := by
            unfold spkB
            first
            | (rw [decide_eq_false (p := C (13 + i) 1 ≠ 0) (fun q => q c_4)]; rfl)
            | (rw [decide_eq_false (show ¬ 0 ≤ t - C (13 + i) 2 by omega), Bool.and_false]; rfl)
            | (rw [begAt, bz_0.mp c_29, Bool.and_false])
          unfold spk
          rw [if_neg (by rw [q]; decide)]
          exact hc), hF⟩

set_option maxRecDepth 100000 in
set_option maxHeartbeats 4000000 in
theorem c_X5_beginsOnCut {lc : Launch} {dA : Nat → ClassId} {cd : Nat → Nat} {σ0 : hS} {C : mS} {R : cR} (hc : cat dA cd σ0 C R) {i : Nat} (hi : i < 5) {a : Nat} {P : mS} (hR : R (13 + i) 0 = some a) (hp : isPS dA cd σ0 a P) (hw : PW P) {age : Int} (ha : -1000000 ≤ age ∧ age ≤ 1000000) (hcu : ∀ l : Nat, l < 6 → C (24 + l) 0 = 0 ∨ C (24 + l) 0 = 1) : gM lc dA yX5_beginsOnCut (.code yX5_beginsOnCut cX5_beginsOnCut 4 (some .boolean)) { frames := 0, cells := 0, slots := 0, locals := 0 } σ0 [.ref (cd (13 + i)), .int (iI age), .ref (cd 23)] (sP σ0 (some (.int (iI (bz (bocF C P age)))))) nX := by
  refine gM_body (by decide +kernel) (by simp [Value.category]) (Nat.le_of_ble_eq_true rfl) (fun Γ hdA cx rx nx => ?_)
  subst hdA
  have cx : CX lc Γ cX5_beginsOnCut RX5 4 { frames := 0, cells := 0, slots := 0, locals := 0 } := cx
  show G Γ σ0 0 0 0 [some (.ref (cd (13 + i))), some (.int (iI age)), some (.ref (cd 23)), none] []
  have hF : cFr cd σ0 σ0 := cFr.rf
  obtain ⟨pa, ba, ea, sa, q0, q1, q2, q3, q4⟩ := id hp
  obtain ⟨w8, w0, w1, w2, w3, w7⟩ := id hw
  refine z_iconst (pc := 0) cx dX5_beginsOnCut_0 ?_
  refine z_is_4_3 (pc := 1) cx dX5_beginsOnCut_1 ?_
  have J2 : ∀ (n j : Nat), j + n = (P 8 0).toNat → (∀ k : Nat, k < j → bocH C P age k = false) → G Γ σ0 0 0 2 [some (.ref (cd (13 + i))), some (.int (iI (age))), some (.ref (cd 23)), some (.int (iI ((j : Int))))] [] := by
    intro n
    induction n using Nat.strongRecOn with
    | _ n ih =>
    intro j hjn hno
    refine z_il_4_3 (pc := 2) cx dX5_beginsOnCut_2 ?_
    refine z_al_4_0 (pc := 3) cx dX5_beginsOnCut_3 ?_
    refine g_getf (pc := 4) (v := .ref a) cx fl_X5_15 (hc.tk (by omega)) (by show some (va_rf (R (13 + i) 0)) = _; rw [hR]; rfl) dX5_beginsOnCut_4 ?_
    refine g_getf (pc := 7) cx fl_X5_58 (q0.fr hF).1 rfl dX5_beginsOnCut_7 ?_
    refine g_len (pc := 10) (t := 0) (v := iI (P 8 0)) cx (q1.fr hF).1 rfl (by rw [← Int32.ofInt_eq_ofNat]; show iI _ = _; rw [Int.toNat_of_nonneg (by omega)]) dX5_beginsOnCut_10 ?_
    refine z_icmp_ge (pc := 11) (tgt := 52) cx (by omega) (by decide) dX5_beginsOnCut_11 (fun c_11 => ?_) (fun c_11 => ?_)
    · skip
      refine z_iconst (pc := 52) cx dX5_beginsOnCut_52 ?_
      exact (z_retb (pc := 53) (b := bocF C P age) cx rx (by decide) (by decide) dX5_beginsOnCut_53 (by rw [bocF, anyN_0 (fun k q => hno k (by omega))]; rfl) ⟨rfl, rfl⟩)
    · skip
      have w3j := w3 (j : Int) (by omega) (by omega)
      refine z_al_4_0 (pc := 14) cx dX5_beginsOnCut_14 ?_
      refine g_getf (pc := 15) (v := .ref a) cx fl_X5_15 (hc.tk (by omega)) (by show some (va_rf (R (13 + i) 0)) = _; rw [hR]; rfl) dX5_beginsOnCut_15 ?_
      refine g_getf (pc := 18) cx fl_X5_61 (q0.fr hF).1 rfl dX5_beginsOnCut_18 ?_
      refine z_il_4_3 (pc := 21) cx dX5_beginsOnCut_21 ?_
      refine z_iald (pc := 22) (N := (P 8 0).toNat) cx (q2.fr hF).1 dX5_beginsOnCut_22 (by omega) ?_
      refine z_il_4_1 (pc := 23) cx dX5_beginsOnCut_23 ?_
      refine z_icmp_ne (pc := 24) (tgt := 46) cx (by omega) (by decide) dX5_beginsOnCut_24 (fun c_24 => ?_) (fun c_24 => ?_)
      · skip
        refine z_ii_4_3 (pc := 46) cx dX5_beginsOnCut_46 ?_
        refine g_goto (pc := 49) (tgt := 2) cx (by decide) dX5_beginsOnCut_49 ?_
        exact ih (n - 1) (by omega) (j + 1) (by omega) (fun k q => (Nat.lt_succ_iff_lt_or_eq.mp q).elim (hno k) (fun q => by
          rw [q, bocH]
          first
          | (rw [decide_eq_false c_24]; rfl)
          | (rw [decide_eq_false (p := C (24 + (P 3 (j : Int)).toNat) 0 ≠ 0) (fun q => q c_41), Bool.and_false])))
      · skip
        refine z_al_4_2 (pc := 27) cx dX5_beginsOnCut_27 ?_
        refine z_al_4_0 (pc := 28) cx dX5_beginsOnCut_28 ?_
        refine g_getf (pc := 29) (v := .ref a) cx fl_X5_15 (hc.tk (by omega)) (by show some (va_rf (R (13 + i) 0)) = _; rw [hR]; rfl) dX5_beginsOnCut_29 ?_
        refine g_getf (pc := 32) cx fl_X5_58 (q0.fr hF).1 rfl dX5_beginsOnCut_32 ?_
        refine z_il_4_3 (pc := 35) cx dX5_beginsOnCut_35 ?_
        refine z_iald (pc := 36) (N := (P 8 0).toNat) cx (q1.fr hF).1 dX5_beginsOnCut_36 (by omega) ?_
        rw [show P 3 (j : Int) = (((P 3 (j : Int)).toNat : Nat) : Int) by omega]
        have hcl := hcu (P 3 (j : Int)).toNat (by omega)
        refine c_pts (pc := 37) cx hc dX5_beginsOnCut_37 (by omega) ?_
        refine g_getf (pc := 38) cx fl_X5_64 (hc.pt (by omega)) rfl dX5_beginsOnCut_38 ?_
        refine z_if_eq (pc := 41) (tgt := 46) cx (by omega) (by decide) dX5_beginsOnCut_41 (fun c_41 => ?_) (fun c_41 => ?_)
        · skip
          refine z_ii_4_3 (pc := 46) cx dX5_beginsOnCut_46 ?_
          refine g_goto (pc := 49) (tgt := 2) cx (by decide) dX5_beginsOnCut_49 ?_
          exact ih (n - 1) (by omega) (j + 1) (by omega) (fun k q => (Nat.lt_succ_iff_lt_or_eq.mp q).elim (hno k) (fun q => by
            rw [q, bocH]
            first
            | (rw [decide_eq_false c_24]; rfl)
            | (rw [decide_eq_false (p := C (24 + (P 3 (j : Int)).toNat) 0 ≠ 0) (fun q => q c_41), Bool.and_false])))
        · skip
          refine z_iconst (pc := 44) cx dX5_beginsOnCut_44 ?_
          exact (z_retb (pc := 45) (b := bocF C P age) cx rx (by decide) (by decide) dX5_beginsOnCut_45 (by rw [bocF, anyN_iff.mpr ⟨j, by omega, by rw [bocH, decide_eq_true c_24, decide_eq_true (p := C (24 + (P 3 (j : Int)).toNat) 0 ≠ 0) c_41]; rfl⟩]; rfl) ⟨rfl, rfl⟩)
  exact J2 (P 8 0).toNat 0 (by omega) (fun k q => absurd q (Nat.not_lt_zero _))

set_option maxRecDepth 100000 in
set_option maxHeartbeats 4000000 in
theorem c_X5_moveFrames {lc : Launch} {dA : Nat → ClassId} {cd : Nat → Nat} {σ0 : hS} {C : mS} {R : cR} (hc : cat dA cd σ0 C R) {i : Nat} (hi : i < 5) {a : Nat} {P : mS} (hR : R (13 + i) 0 = some a) (hp : isPS dA cd σ0 a P) (hw : PW P) {t : Int} (ht0 : 0 ≤ t ∧ t ≤ 1000000) (ht : TkW C i) (hcu : ∀ l : Nat, l < 6 → C (24 + l) 0 = 0 ∨ C (24 + l) 0 = 1) : gM lc dA yX5_moveFrames (.code yX5_moveFrames cX5_moveFrames 6 none) { frames := 1, cells := 0, slots := 0, locals := 23 } σ0 [.ref (cd (13 + i)), .int (iI t), .ref (cd 23)] (cP dA cd σ0 none (mvF C i P t) (R)) nX := by
  refine gM_body (by decide +kernel) (by simp [Value.category]) (Nat.le_of_ble_eq_true rfl) (fun Γ hdA cx rx nx => ?_)
  subst hdA
  have cx : CX lc Γ cX5_moveFrames RX5 6 { frames := 1, cells := 0, slots := 0, locals := 23 } := cx
  show G Γ σ0 0 0 0 [some (.ref (cd (13 + i))), some (.int (iI t)), some (.ref (cd 23)), none, none, none] []
  have hF : cFr cd σ0 σ0 := cFr.rf
  obtain ⟨pa, ba, ea, sa, q0, q1, q2, q3, q4⟩ := id hp
  obtain ⟨w8, w0, w1, w2, w3, w7⟩ := id hw
  obtain ⟨t1, t2, t3, t4, t5⟩ := id ht
  have wl := (w3 (P 8 0 - 1) (by omega) (by omega)).2.2
  refine z_iconst (pc := 0) cx dX5_moveFrames_0 ?_
  refine z_is_6_3 (pc := 1) cx dX5_moveFrames_1 ?_
  refine z_iconst (pc := 2) cx dX5_moveFrames_2 ?_
  refine z_is_6_4 (pc := 3) cx dX5_moveFrames_3 ?_
  have J5 : ∀ (n j : Nat) (T : mS) (kp : Nat) (x5 : Option Value) (σ : hS), j + n = (C (13 + i) 4).toNat → (T, kp) = itP j (mv1 i P t) (C, 0) → cat (gdA Γ) cd σ T R → cFr cd σ0 σ → G Γ σ 0 0 5 [some (.ref (cd (13 + i))), some (.int (iI (t))), some (.ref (cd 23)), some (.int (iI ((kp : Int)))), some (.int (iI ((j : Int)))), x5] [] := by
    intro n
    induction n using Nat.strongRecOn with
    | _ n ih =>
    intro j T kp x5 σ hjn hT hc hF
    have hI := mv_ok (C := C) (i := i) (P := P) (t := t) j
    rw [← hT] at hI
    obtain ⟨i1, i2, i3, i4⟩ := hI
    have i1 : kp ≤ j := i1
    have i3 : T (13 + i) 4 = C (13 + i) 4 := i3
    have i2 : ∀ k, k ≠ 13 + i → k ≠ 13 + i + 5 → T k = C k := i2
    refine z_il_6_4 (pc := 5) cx dX5_moveFrames_5 ?_
    refine z_al_6_0 (pc := 7) cx dX5_moveFrames_7 ?_
    refine g_getf (pc := 8) cx fl_X5_30 (hc.tk (by omega)) rfl dX5_moveFrames_8 ?_
    refine z_icmp_ge (pc := 11) (tgt := 101) cx (by omega) (by decide) dX5_moveFrames_11 (fun c_11 => ?_) (fun c_11 => ?_)
    · obtain rfl : j = (C (13 + i) 4).toNat := by omega
      refine z_al_6_0 (pc := 101) cx dX5_moveFrames_101 ?_
      refine z_il_6_3 (pc := 102) cx dX5_moveFrames_102 ?_
      refine c_put (pc := 103) cx hc hF (by omega) fl_X5_30 rfl (cE_tk (by omega)) (show (4 : Nat) < 10 by decide) (⟨rfl, rfl⟩) (tkS4 (by omega)) mw_ne dX5_moveFrames_103 ?_
      intro σ hc hF
      exact g_return (pc := 106) cx rx (by decide) (by decide) dX5_moveFrames_106 ⟨rfl, (by unfold mvF; rw [← hT]; exact hc), hF⟩
    · skip
      have i4j : T (13 + i + 5) (j : Int) = C (13 + i + 5) (j : Int) := i4 (j : Int) (Int.le_refl _)
      have t5j := t5 (j : Int) (by omega) (by omega)
      refine z_il_6_1 (pc := 14) cx dX5_moveFrames_14 ?_
      refine z_al_6_0 (pc := 15) cx dX5_moveFrames_15 ?_
      refine g_getf (pc := 16) cx fl_X5_9 (hc.tk (by omega)) rfl dX5_moveFrames_16 ?_
      refine z_il_6_4 (pc := 19) cx dX5_moveFrames_19 ?_
      refine z_iald (pc := 21) (N := 8) cx (hc.st (by omega)) dX5_moveFrames_21 (by omega) ?_
      refine z_isub (pc := 22) cx dX5_moveFrames_22 ?_
      refine z_is_6_5 (pc := 23) cx dX5_moveFrames_23 ?_
      refine z_al_6_0 (pc := 25) cx dX5_moveFrames_25 ?_
      refine z_il_6_5 (pc := 26) cx dX5_moveFrames_26 ?_
      refine z_al_6_2 (pc := 28) cx dX5_moveFrames_28 ?_
      refine s_callV (pc := 29) cx lk_X5_51 (c_X5_beginsOnCut hc hi hR (hp.fr hF) hw (by omega) (fun l hl => by rw [i2 (24 + l) (by omega) (by omega)]; exact hcu l hl)) (hc.tk (by omega)) rfl gy_X5_beginsOnCut ⟨⟨by decide, by decide⟩, by decide, by decide⟩ ⟨rfl, rfl⟩ rfl rfl (Nat.le_of_ble_eq_true rfl) dX5_moveFrames_29 ?_
      show G Γ _ _ _ 32 _ (.int _ :: _)
      refine z_if_eq (pc := 32) (tgt := 48) cx (by have := bz_r (bocF T P (t - T (13 + i + 5) (j : Int))); omega) (by decide) dX5_moveFrames_32 (fun c_32 => ?_) (fun c_32 => ?_)
      · skip
        refine z_il_6_5 (pc := 48) cx dX5_moveFrames_48 ?_
        refine z_al_6_0 (pc := 50) cx dX5_moveFrames_50 ?_
        refine g_getf (pc := 51) (v := .ref a) cx fl_X5_15 (hc.tk (by omega)) (by show some (va_rf (R (13 + i) 0)) = _; rw [hR]; rfl) dX5_moveFrames_51 ?_
        refine s_callV (pc := 54) cx lk_X5_55 (c_X0_latency (hp.fr hF) hw) (q0.fr hF).1 rfl gy_X0_latency ⟨⟨by decide, by decide⟩, by decide, by decide⟩ ⟨rfl, rfl⟩ rfl rfl (Nat.le_of_ble_eq_true rfl) dX5_moveFrames_54 ?_
        show G Γ _ _ _ 57 _ (.int _ :: _)
        refine z_icmp_ne (pc := 57) (tgt := 79) cx (by omega) (by decide) dX5_moveFrames_57 (fun c_57 => ?_) (fun c_57 => ?_)
        · skip
          refine z_al_6_0 (pc := 79) cx dX5_moveFrames_79 ?_
          refine g_getf (pc := 80) cx fl_X5_9 (hc.tk (by omega)) rfl dX5_moveFrames_80 ?_
          refine z_il_6_3 (pc := 83) cx dX5_moveFrames_83 ?_
          refine z_al_6_0 (pc := 84) cx dX5_moveFrames_84 ?_
          refine g_getf (pc := 85) cx fl_X5_9 (hc.tk (by omega)) rfl dX5_moveFrames_85 ?_
          refine z_il_6_4 (pc := 88) cx dX5_moveFrames_88 ?_
          refine z_iald (pc := 90) (N := 8) cx (hc.st (by omega)) dX5_moveFrames_90 (by omega) ?_
          refine c_iast (pc := 91) (L := 8) cx hc hF (cIL_st (by omega)) (by decide) (by omega) dX5_moveFrames_91 (by omega) ?_
          intro σ hc hF
          refine z_ii_6_3 (pc := 92) cx dX5_moveFrames_92 ?_
          refine z_ii_6_4 (pc := 95) cx dX5_moveFrames_95 ?_
          refine g_goto (pc := 98) (tgt := 5) cx (by decide) dX5_moveFrames_98 ?_
          first
          | exact ih (n - 1) (by omega) (j + 1) _ kp _ σ (by omega) (show _ = mv1 i P t (itP j (mv1 i P t) (C, 0)) j by rw [← hT, mv1, if_pos (bz_n0.mp c_32)]) hc hF
          | exact ih (n - 1) (by omega) (j + 1) _ kp _ σ (by omega) (show _ = mv1 i P t (itP j (mv1 i P t) (C, 0)) j by rw [← hT, mv1, if_neg (by rw [bz_0.mp c_32]; decide), if_pos c_57]) hc hF
          | exact ih (n - 1) (by omega) (j + 1) _ (kp + 1) _ σ (by omega) (show _ = mv1 i P t (itP j (mv1 i P t) (C, 0)) j by rw [← hT, mv1, if_neg (by rw [bz_0.mp c_32]; decide), if_neg c_57]) hc hF
        · skip
          refine z_al_6_0 (pc := 60) cx dX5_moveFrames_60 ?_
          refine g_dup (pc := 61) cx rfl dX5_moveFrames_61 ?_
          refine g_getf (pc := 62) cx fl_X5_33 (hc.tk (by omega)) rfl dX5_moveFrames_62 ?_
          refine z_iconst (pc := 65) cx dX5_moveFrames_65 ?_
          refine z_iadd (pc := 66) cx dX5_moveFrames_66 ?_
          refine c_put (pc := 67) cx hc hF (by omega) fl_X5_33 rfl (cE_tk (by omega)) (show (5 : Nat) < 10 by decide) (⟨rfl, rfl⟩) (tkS5 (by omega)) mw_ne dX5_moveFrames_67 ?_
          intro σ hc hF
          refine z_al_6_0 (pc := 70) cx dX5_moveFrames_70 ?_
          refine z_il_6_5 (pc := 71) cx dX5_moveFrames_71 ?_
          refine c_put (pc := 73) cx hc hF (by omega) fl_X5_42 rfl (cE_tk (by omega)) (show (8 : Nat) < 10 by decide) (⟨rfl, rfl⟩) (tkS8 (by omega)) mw_ne dX5_moveFrames_73 ?_
          intro σ hc hF
          refine g_goto (pc := 76) (tgt := 95) cx (by decide) dX5_moveFrames_76 ?_
          refine z_ii_6_4 (pc := 95) cx dX5_moveFrames_95 ?_
          refine g_goto (pc := 98) (tgt := 5) cx (by decide) dX5_moveFrames_98 ?_
          first
          | exact ih (n - 1) (by omega) (j + 1) _ kp _ σ (by omega) (show _ = mv1 i P t (itP j (mv1 i P t) (C, 0)) j by rw [← hT, mv1, if_pos (bz_n0.mp c_32)]) hc hF
          | exact ih (n - 1) (by omega) (j + 1) _ kp _ σ (by omega) (show _ = mv1 i P t (itP j (mv1 i P t) (C, 0)) j by rw [← hT, mv1, if_neg (by rw [bz_0.mp c_32]; decide), if_pos c_57]) hc hF
          | exact ih (n - 1) (by omega) (j + 1) _ (kp + 1) _ σ (by omega) (show _ = mv1 i P t (itP j (mv1 i P t) (C, 0)) j by rw [← hT, mv1, if_neg (by rw [bz_0.mp c_32]; decide), if_neg c_57]) hc hF
      · skip
        refine z_al_6_0 (pc := 35) cx dX5_moveFrames_35 ?_
        refine g_dup (pc := 36) cx rfl dX5_moveFrames_36 ?_
        refine g_getf (pc := 37) cx fl_X5_36 (hc.tk (by omega)) rfl dX5_moveFrames_37 ?_
        refine z_iconst (pc := 40) cx dX5_moveFrames_40 ?_
        refine z_iadd (pc := 41) cx dX5_moveFrames_41 ?_
        refine c_put (pc := 42) cx hc hF (by omega) fl_X5_36 rfl (cE_tk (by omega)) (show (6 : Nat) < 10 by decide) (⟨rfl, rfl⟩) (tkS6 (by omega)) mw_ne dX5_moveFrames_42 ?_
        intro σ hc hF
        refine g_goto (pc := 45) (tgt := 95) cx (by decide) dX5_moveFrames_45 ?_
        refine z_ii_6_4 (pc := 95) cx dX5_moveFrames_95 ?_
        refine g_goto (pc := 98) (tgt := 5) cx (by decide) dX5_moveFrames_98 ?_
        first
        | exact ih (n - 1) (by omega) (j + 1) _ kp _ σ (by omega) (show _ = mv1 i P t (itP j (mv1 i P t) (C, 0)) j by rw [← hT, mv1, if_pos (bz_n0.mp c_32)]) hc hF
        | exact ih (n - 1) (by omega) (j + 1) _ kp _ σ (by omega) (show _ = mv1 i P t (itP j (mv1 i P t) (C, 0)) j by rw [← hT, mv1, if_neg (by rw [bz_0.mp c_32]; decide), if_pos c_57]) hc hF
        | exact ih (n - 1) (by omega) (j + 1) _ (kp + 1) _ σ (by omega) (show _ = mv1 i P t (itP j (mv1 i P t) (C, 0)) j by rw [← hT, mv1, if_neg (by rw [bz_0.mp c_32]; decide), if_neg c_57]) hc hF
  exact J5 (C (13 + i) 4).toNat 0 C 0 none σ0 (by omega) rfl hc hF

set_option maxRecDepth 100000 in
set_option maxHeartbeats 4000000 in
theorem c_X5_loseOn {lc : Launch} {dA : Nat → ClassId} {cd : Nat → Nat} {σ0 : hS} {C : mS} {R : cR} (hc : cat dA cd σ0 C R) {i : Nat} (hi : i < 5) {a : Nat} {P : mS} (hR : R (13 + i) 0 = some a) (hp : isPS dA cd σ0 a P) (hw : PW P) {w t : Int} (hwr : 0 ≤ w ∧ w < 6) (ht0 : 0 ≤ t ∧ t ≤ 1000000) (ht : TkW C i) : gM lc dA yX5_loseOn (.code yX5_loseOn cX5_loseOn 7 none) { frames := 1, cells := 0, slots := 0, locals := 22 } σ0 [.ref (cd (13 + i)), .int (iI w), .int (iI t)] (cP dA cd σ0 none (loF C i P w t) (R)) nX := by
  refine gM_body (by decide +kernel) (by simp [Value.category]) (Nat.le_of_ble_eq_true rfl) (fun Γ hdA cx rx nx => ?_)
  subst hdA
  have cx : CX lc Γ cX5_loseOn RX5 7 { frames := 1, cells := 0, slots := 0, locals := 22 } := cx
  show G Γ σ0 0 0 0 [some (.ref (cd (13 + i))), some (.int (iI w)), some (.int (iI t)), none, none, none, none] []
  have hF : cFr cd σ0 σ0 := cFr.rf
  obtain ⟨pa, ba, ea, sa, q0, q1, q2, q3, q4⟩ := id hp
  obtain ⟨w8, w0, w1, w2, w3, w7⟩ := id hw
  obtain ⟨t1, t2, t3, t4, t5⟩ := id ht
  have hhr := hopF_r hw w
  refine z_al_7_0 (pc := 0) cx dX5_loseOn_0 ?_
  refine g_getf (pc := 1) (v := .ref a) cx fl_X5_15 (hc.tk (by omega)) (by show some (va_rf (R (13 + i) 0)) = _; rw [hR]; rfl) dX5_loseOn_1 ?_
  refine z_il_7_1 (pc := 4) cx dX5_loseOn_4 ?_
  refine s_callV (pc := 5) cx lk_X5_69 (c_X0_hopOn (hp.fr hF) hw hwr) (q0.fr hF).1 rfl gy_X0_hopOn ⟨⟨by decide, by decide⟩, by decide, by decide⟩ ⟨rfl, rfl⟩ rfl rfl (Nat.le_of_ble_eq_true rfl) dX5_loseOn_5 ?_
  show G Γ _ _ _ 8 _ (.int _ :: _)
  refine z_is_7_3 (pc := 8) cx dX5_loseOn_8 ?_
  refine z_il_7_3 (pc := 9) cx dX5_loseOn_9 ?_
  refine z_iconst (pc := 10) cx dX5_loseOn_10 ?_
  refine z_icmp_ne (pc := 11) (tgt := 15) cx (by omega) (by decide) dX5_loseOn_11 (fun c_11 => ?_) (fun c_11 => ?_)
  · skip
    have w3h := w3 (hopF P w) (by omega) (by omega)
    refine z_iconst (pc := 15) cx dX5_loseOn_15 ?_
    refine z_is_7_4 (pc := 16) cx dX5_loseOn_16 ?_
    refine z_iconst (pc := 18) cx dX5_loseOn_18 ?_
    refine z_is_7_5 (pc := 19) cx dX5_loseOn_19 ?_
    have J21 : ∀ (n j : Nat) (T : mS) (kp : Nat) (x6 : Option Value) (σ : hS), j + n = (C (13 + i) 4).toNat → (T, kp) = itP j (lo1 i P (hopF P w) t) (C, 0) → cat (gdA Γ) cd σ T R → cFr cd σ0 σ → G Γ σ 0 0 21 [some (.ref (cd (13 + i))), some (.int (iI (w))), some (.int (iI (t))), some (.int (iI (hopF P w))), some (.int (iI ((kp : Int)))), some (.int (iI ((j : Int)))), x6] [] := by
      intro n
      induction n using Nat.strongRecOn with
      | _ n ih =>
      intro j T kp x6 σ hjn hT hc hF
      have hI := lo_ok (C := C) (i := i) (P := P) (h := hopF P w) (t := t) j
      rw [← hT] at hI
      obtain ⟨i1, i2, i3, i4⟩ := hI
      have i1 : kp ≤ j := i1
      have i3 : T (13 + i) 4 = C (13 + i) 4 := i3
      have i2 : ∀ k, k ≠ 13 + i → k ≠ 13 + i + 5 → T k = C k := i2
      refine z_il_7_5 (pc := 21) cx dX5_loseOn_21 ?_
      refine z_al_7_0 (pc := 23) cx dX5_loseOn_23 ?_
      refine g_getf (pc := 24) cx fl_X5_30 (hc.tk (by omega)) rfl dX5_loseOn_24 ?_
      refine z_icmp_ge (pc := 27) (tgt := 105) cx (by omega) (by decide) dX5_loseOn_27 (fun c_27 => ?_) (fun c_27 => ?_)
      · obtain rfl : j = (C (13 + i) 4).toNat := by omega
        refine z_al_7_0 (pc := 105) cx dX5_loseOn_105 ?_
        refine z_il_7_4 (pc := 106) cx dX5_loseOn_106 ?_
        refine c_put (pc := 108) cx hc hF (by omega) fl_X5_30 rfl (cE_tk (by omega)) (show (4 : Nat) < 10 by decide) (⟨rfl, rfl⟩) (tkS4 (by omega)) mw_ne dX5_loseOn_108 ?_
        intro σ hc hF
        exact g_return (pc := 111) cx rx (by decide) (by decide) dX5_loseOn_111 ⟨rfl, (by unfold loF; rw [if_neg c_11, ← hT]; exact hc), hF⟩
      · skip
        have i4j : T (13 + i + 5) (j : Int) = C (13 + i + 5) (j : Int) := i4 (j : Int) (Int.le_refl _)
        have t5j := t5 (j : Int) (by omega) (by omega)
        refine z_il_7_2 (pc := 30) cx dX5_loseOn_30 ?_
        refine z_al_7_0 (pc := 31) cx dX5_loseOn_31 ?_
        refine g_getf (pc := 32) cx fl_X5_9 (hc.tk (by omega)) rfl dX5_loseOn_32 ?_
        refine z_il_7_5 (pc := 35) cx dX5_loseOn_35 ?_
        refine z_iald (pc := 37) (N := 8) cx (hc.st (by omega)) dX5_loseOn_37 (by omega) ?_
        refine z_isub (pc := 38) cx dX5_loseOn_38 ?_
        refine z_is_7_6 (pc := 39) cx dX5_loseOn_39 ?_
        refine z_il_7_6 (pc := 41) cx dX5_loseOn_41 ?_
        refine z_al_7_0 (pc := 43) cx dX5_loseOn_43 ?_
        refine g_getf (pc := 44) (v := .ref a) cx fl_X5_15 (hc.tk (by omega)) (by show some (va_rf (R (13 + i) 0)) = _; rw [hR]; rfl) dX5_loseOn_44 ?_
        refine g_getf (pc := 47) cx fl_X5_61 (q0.fr hF).1 rfl dX5_loseOn_47 ?_
        refine z_il_7_3 (pc := 50) cx dX5_loseOn_50 ?_
        refine z_iald (pc := 51) (N := (P 8 0).toNat) cx (q2.fr hF).1 dX5_loseOn_51 (by omega) ?_
        refine z_icmp_le (pc := 52) (tgt := 82) cx (by omega) (by decide) dX5_loseOn_52 (fun c_52 => ?_) (fun c_52 => ?_)
        · skip
          refine z_al_7_0 (pc := 82) cx dX5_loseOn_82 ?_
          refine g_getf (pc := 83) cx fl_X5_9 (hc.tk (by omega)) rfl dX5_loseOn_83 ?_
          refine z_il_7_4 (pc := 86) cx dX5_loseOn_86 ?_
          refine z_al_7_0 (pc := 88) cx dX5_loseOn_88 ?_
          refine g_getf (pc := 89) cx fl_X5_9 (hc.tk (by omega)) rfl dX5_loseOn_89 ?_
          refine z_il_7_5 (pc := 92) cx dX5_loseOn_92 ?_
          refine z_iald (pc := 94) (N := 8) cx (hc.st (by omega)) dX5_loseOn_94 (by omega) ?_
          refine c_iast (pc := 95) (L := 8) cx hc hF (cIL_st (by omega)) (by decide) (by omega) dX5_loseOn_95 (by omega) ?_
          intro σ hc hF
          refine z_ii_7_4 (pc := 96) cx dX5_loseOn_96 ?_
          refine z_ii_7_5 (pc := 99) cx dX5_loseOn_99 ?_
          refine g_goto (pc := 102) (tgt := 21) cx (by decide) dX5_loseOn_102 ?_
          first
          | exact ih (n - 1) (by omega) (j + 1) _ kp _ σ (by omega) (show _ = lo1 i P (hopF P w) t (itP j (lo1 i P (hopF P w) t) (C, 0)) j by rw [← hT, lo1, if_pos ⟨c_52, c_66⟩]) hc hF
          | exact ih (n - 1) (by omega) (j + 1) _ (kp + 1) _ σ (by omega) (show _ = lo1 i P (hopF P w) t (itP j (lo1 i P (hopF P w) t) (C, 0)) j by rw [← hT, lo1, if_neg (fun q => by have q1 : P 4 (hopF P w) < t - T (13 + i + 5) (j : Int) := q.1; omega)]) hc hF
          | exact ih (n - 1) (by omega) (j + 1) _ (kp + 1) _ σ (by omega) (show _ = lo1 i P (hopF P w) t (itP j (lo1 i P (hopF P w) t) (C, 0)) j by rw [← hT, lo1, if_neg (fun q => by have q1 : t - T (13 + i + 5) (j : Int) < P 5 (hopF P w) := q.2; omega)]) hc hF
        · skip
          refine z_il_7_6 (pc := 55) cx dX5_loseOn_55 ?_
          refine z_al_7_0 (pc := 57) cx dX5_loseOn_57 ?_
          refine g_getf (pc := 58) (v := .ref a) cx fl_X5_15 (hc.tk (by omega)) (by show some (va_rf (R (13 + i) 0)) = _; rw [hR]; rfl) dX5_loseOn_58 ?_
          refine g_getf (pc := 61) cx fl_X5_73 (q0.fr hF).1 rfl dX5_loseOn_61 ?_
          refine z_il_7_3 (pc := 64) cx dX5_loseOn_64 ?_
          refine z_iald (pc := 65) (N := (P 8 0).toNat) cx (q3.fr hF).1 dX5_loseOn_65 (by omega) ?_
          refine z_icmp_ge (pc := 66) (tgt := 82) cx (by omega) (by decide) dX5_loseOn_66 (fun c_66 => ?_) (fun c_66 => ?_)
          · skip
            refine z_al_7_0 (pc := 82) cx dX5_loseOn_82 ?_
            refine g_getf (pc := 83) cx fl_X5_9 (hc.tk (by omega)) rfl dX5_loseOn_83 ?_
            refine z_il_7_4 (pc := 86) cx dX5_loseOn_86 ?_
            refine z_al_7_0 (pc := 88) cx dX5_loseOn_88 ?_
            refine g_getf (pc := 89) cx fl_X5_9 (hc.tk (by omega)) rfl dX5_loseOn_89 ?_
            refine z_il_7_5 (pc := 92) cx dX5_loseOn_92 ?_
            refine z_iald (pc := 94) (N := 8) cx (hc.st (by omega)) dX5_loseOn_94 (by omega) ?_
            refine c_iast (pc := 95) (L := 8) cx hc hF (cIL_st (by omega)) (by decide) (by omega) dX5_loseOn_95 (by omega) ?_
            intro σ hc hF
            refine z_ii_7_4 (pc := 96) cx dX5_loseOn_96 ?_
            refine z_ii_7_5 (pc := 99) cx dX5_loseOn_99 ?_
            refine g_goto (pc := 102) (tgt := 21) cx (by decide) dX5_loseOn_102 ?_
            first
            | exact ih (n - 1) (by omega) (j + 1) _ kp _ σ (by omega) (show _ = lo1 i P (hopF P w) t (itP j (lo1 i P (hopF P w) t) (C, 0)) j by rw [← hT, lo1, if_pos ⟨c_52, c_66⟩]) hc hF
            | exact ih (n - 1) (by omega) (j + 1) _ (kp + 1) _ σ (by omega) (show _ = lo1 i P (hopF P w) t (itP j (lo1 i P (hopF P w) t) (C, 0)) j by rw [← hT, lo1, if_neg (fun q => by have q1 : P 4 (hopF P w) < t - T (13 + i + 5) (j : Int) := q.1; omega)]) hc hF
            | exact ih (n - 1) (by omega) (j + 1) _ (kp + 1) _ σ (by omega) (show _ = lo1 i P (hopF P w) t (itP j (lo1 i P (hopF P w) t) (C, 0)) j by rw [← hT, lo1, if_neg (fun q => by have q1 : t - T (13 + i + 5) (j : Int) < P 5 (hopF P w) := q.2; omega)]) hc hF
          · skip
            refine z_al_7_0 (pc := 69) cx dX5_loseOn_69 ?_
            refine g_dup (pc := 70) cx rfl dX5_loseOn_70 ?_
            refine g_getf (pc := 71) cx fl_X5_36 (hc.tk (by omega)) rfl dX5_loseOn_71 ?_
            refine z_iconst (pc := 74) cx dX5_loseOn_74 ?_
            refine z_iadd (pc := 75) cx dX5_loseOn_75 ?_
            refine c_put (pc := 76) cx hc hF (by omega) fl_X5_36 rfl (cE_tk (by omega)) (show (6 : Nat) < 10 by decide) (⟨rfl, rfl⟩) (tkS6 (by omega)) mw_ne dX5_loseOn_76 ?_
            intro σ hc hF
            refine g_goto (pc := 79) (tgt := 99) cx (by decide) dX5_loseOn_79 ?_
            refine z_ii_7_5 (pc := 99) cx dX5_loseOn_99 ?_
            refine g_goto (pc := 102) (tgt := 21) cx (by decide) dX5_loseOn_102 ?_
            first
            | exact ih (n - 1) (by omega) (j + 1) _ kp _ σ (by omega) (show _ = lo1 i P (hopF P w) t (itP j (lo1 i P (hopF P w) t) (C, 0)) j by rw [← hT, lo1, if_pos ⟨c_52, c_66⟩]) hc hF
            | exact ih (n - 1) (by omega) (j + 1) _ (kp + 1) _ σ (by omega) (show _ = lo1 i P (hopF P w) t (itP j (lo1 i P (hopF P w) t) (C, 0)) j by rw [← hT, lo1, if_neg (fun q => by have q1 : P 4 (hopF P w) < t - T (13 + i + 5) (j : Int) := q.1; omega)]) hc hF
            | exact ih (n - 1) (by omega) (j + 1) _ (kp + 1) _ σ (by omega) (show _ = lo1 i P (hopF P w) t (itP j (lo1 i P (hopF P w) t) (C, 0)) j by rw [← hT, lo1, if_neg (fun q => by have q1 : t - T (13 + i + 5) (j : Int) < P 5 (hopF P w) := q.2; omega)]) hc hF
    exact J21 (C (13 + i) 4).toNat 0 C 0 none σ0 (by omega) rfl hc hF
  · skip
    exact g_return (pc := 14) cx rx (by decide) (by decide) dX5_loseOn_14 ⟨rfl, (by rw [loF, if_pos c_11]; exact hc), hF⟩

set_option maxRecDepth 100000 in
set_option maxHeartbeats 4000000 in
theorem c_X5_hasFrameOn {lc : Launch} {dA : Nat → ClassId} {cd : Nat → Nat} {σ0 : hS} {C : mS} {R : cR} (hc : cat dA cd σ0 C R) {i : Nat} (hi : i < 5) {a : Nat} {P : mS} (hR : R (13 + i) 0 = some a) (hp : isPS dA cd σ0 a P) (hw : PW P) {w t : Int} (hwr : 0 ≤ w ∧ w < 6) (ht0 : 0 ≤ t ∧ t ≤ 1000000) (ht : TkW C i) : gM lc dA yX5_hasFrameOn (.code yX5_hasFrameOn cX5_hasFrameOn 6 (some .boolean)) { frames := 1, cells := 0, slots := 0, locals := 22 } σ0 [.ref (cd (13 + i)), .int (iI w), .int (iI t)] (sP σ0 (some (.int (iI (bz (hfF C i P w t)))))) nX := by
  refine gM_body (by decide +kernel) (by simp [Value.category]) (Nat.le_of_ble_eq_true rfl) (fun Γ hdA cx rx nx => ?_)
  subst hdA
  have cx : CX lc Γ cX5_hasFrameOn RX5 6 { frames := 1, cells := 0, slots := 0, locals := 22 } := cx
  show G Γ σ0 0 0 0 [some (.ref (cd (13 + i))), some (.int (iI w)), some (.int (iI t)), none, none, none] []
  have hF : cFr cd σ0 σ0 := cFr.rf
  obtain ⟨pa, ba, ea, sa, q0, q1, q2, q3, q4⟩ := id hp
  obtain ⟨w8, w0, w1, w2, w3, w7⟩ := id hw
  obtain ⟨t1, t2, t3, t4, t5⟩ := id ht
  have hhr := hopF_r hw w
  refine z_al_6_0 (pc := 0) cx dX5_hasFrameOn_0 ?_
  refine g_getf (pc := 1) (v := .ref a) cx fl_X5_15 (hc.tk (by omega)) (by show some (va_rf (R (13 + i) 0)) = _; rw [hR]; rfl) dX5_hasFrameOn_1 ?_
  refine z_il_6_1 (pc := 4) cx dX5_hasFrameOn_4 ?_
  refine s_callV (pc := 5) cx lk_X5_69 (c_X0_hopOn (hp.fr hF) hw hwr) (q0.fr hF).1 rfl gy_X0_hopOn ⟨⟨by decide, by decide⟩, by decide, by decide⟩ ⟨rfl, rfl⟩ rfl rfl (Nat.le_of_ble_eq_true rfl) dX5_hasFrameOn_5 ?_
  show G Γ _ _ _ 8 _ (.int _ :: _)
  refine z_is_6_3 (pc := 8) cx dX5_hasFrameOn_8 ?_
  refine z_il_6_3 (pc := 9) cx dX5_hasFrameOn_9 ?_
  refine z_iconst (pc := 10) cx dX5_hasFrameOn_10 ?_
  refine z_icmp_ne (pc := 11) (tgt := 16) cx (by omega) (by decide) dX5_hasFrameOn_11 (fun c_11 => ?_) (fun c_11 => ?_)
  · skip
    have w3h := w3 (hopF P w) (by omega) (by omega)
    refine z_iconst (pc := 16) cx dX5_hasFrameOn_16 ?_
    refine z_is_6_4 (pc := 17) cx dX5_hasFrameOn_17 ?_
    have J19 : ∀ (n j : Nat) (x5 : Option Value), j + n = (C (13 + i) 4).toNat → (∀ k : Nat, k < j → hfJ C i P (hopF P w) t k = false) → G Γ σ0 0 0 19 [some (.ref (cd (13 + i))), some (.int (iI (w))), some (.int (iI (t))), some (.int (iI (hopF P w))), some (.int (iI ((j : Int)))), x5] [] := by
      intro n
      induction n using Nat.strongRecOn with
      | _ n ih =>
      intro j x5 hjn hno
      refine z_il_6_4 (pc := 19) cx dX5_hasFrameOn_19 ?_
      refine z_al_6_0 (pc := 21) cx dX5_hasFrameOn_21 ?_
      refine g_getf (pc := 22) cx fl_X5_30 (hc.tk (by omega)) rfl dX5_hasFrameOn_22 ?_
      refine z_icmp_ge (pc := 25) (tgt := 74) cx (by omega) (by decide) dX5_hasFrameOn_25 (fun c_25 => ?_) (fun c_25 => ?_)
      · skip
        refine z_iconst (pc := 74) cx dX5_hasFrameOn_74 ?_
        exact (z_retb (pc := 75) (b := hfF C i P w t) cx rx (by decide) (by decide) dX5_hasFrameOn_75 (by rw [hfF, anyN_0 (fun k q => hno k (by omega)), Bool.and_false]; rfl) ⟨rfl, rfl⟩)
      · skip
        have t5j := t5 (j : Int) (by omega) (by omega)
        refine z_il_6_2 (pc := 28) cx dX5_hasFrameOn_28 ?_
        refine z_al_6_0 (pc := 29) cx dX5_hasFrameOn_29 ?_
        refine g_getf (pc := 30) cx fl_X5_9 (hc.tk (by omega)) rfl dX5_hasFrameOn_30 ?_
        refine z_il_6_4 (pc := 33) cx dX5_hasFrameOn_33 ?_
        refine z_iald (pc := 35) (N := 8) cx (hc.st (by omega)) dX5_hasFrameOn_35 (by omega) ?_
        refine z_isub (pc := 36) cx dX5_hasFrameOn_36 ?_
        refine z_al_6_0 (pc := 37) cx dX5_hasFrameOn_37 ?_
        refine g_getf (pc := 38) (v := .ref a) cx fl_X5_15 (hc.tk (by omega)) (by show some (va_rf (R (13 + i) 0)) = _; rw [hR]; rfl) dX5_hasFrameOn_38 ?_
        refine g_getf (pc := 41) cx fl_X5_61 (q0.fr hF).1 rfl dX5_hasFrameOn_41 ?_
        refine z_il_6_3 (pc := 44) cx dX5_hasFrameOn_44 ?_
        refine z_iald (pc := 45) (N := (P 8 0).toNat) cx (q2.fr hF).1 dX5_hasFrameOn_45 (by omega) ?_
        refine z_isub (pc := 46) cx dX5_hasFrameOn_46 ?_
        refine z_is_6_5 (pc := 47) cx dX5_hasFrameOn_47 ?_
        refine z_il_6_5 (pc := 49) cx dX5_hasFrameOn_49 ?_
        refine z_if_le (pc := 51) (tgt := 68) cx (by omega) (by decide) dX5_hasFrameOn_51 (fun c_51 => ?_) (fun c_51 => ?_)
        · skip
          refine z_ii_6_4 (pc := 68) cx dX5_hasFrameOn_68 ?_
          refine g_goto (pc := 71) (tgt := 19) cx (by decide) dX5_hasFrameOn_71 ?_
          exact ih (n - 1) (by omega) (j + 1) _ (by omega) (fun k q => (Nat.lt_succ_iff_lt_or_eq.mp q).elim (hno k) (fun q => by
            rw [q, hfJ]
            first
            | (rw [decide_eq_false (show ¬ 0 < t - C (13 + i + 5) (j : Int) - P 4 (hopF P w) by omega)]; rfl)
            | (rw [decide_eq_false (show ¬ t - C (13 + i + 5) (j : Int) - P 4 (hopF P w) < P 1 0 by omega), Bool.and_false])))
        · skip
          refine z_il_6_5 (pc := 54) cx dX5_hasFrameOn_54 ?_
          refine z_al_6_0 (pc := 56) cx dX5_hasFrameOn_56 ?_
          refine g_getf (pc := 57) (v := .ref a) cx fl_X5_15 (hc.tk (by omega)) (by show some (va_rf (R (13 + i) 0)) = _; rw [hR]; rfl) dX5_hasFrameOn_57 ?_
          refine g_getf (pc := 60) cx fl_X5_76 (q0.fr hF).1 rfl dX5_hasFrameOn_60 ?_
          refine z_icmp_ge (pc := 63) (tgt := 68) cx (by omega) (by decide) dX5_hasFrameOn_63 (fun c_63 => ?_) (fun c_63 => ?_)
          · skip
            refine z_ii_6_4 (pc := 68) cx dX5_hasFrameOn_68 ?_
            refine g_goto (pc := 71) (tgt := 19) cx (by decide) dX5_hasFrameOn_71 ?_
            exact ih (n - 1) (by omega) (j + 1) _ (by omega) (fun k q => (Nat.lt_succ_iff_lt_or_eq.mp q).elim (hno k) (fun q => by
              rw [q, hfJ]
              first
              | (rw [decide_eq_false (show ¬ 0 < t - C (13 + i + 5) (j : Int) - P 4 (hopF P w) by omega)]; rfl)
              | (rw [decide_eq_false (show ¬ t - C (13 + i + 5) (j : Int) - P 4 (hopF P w) < P 1 0 by omega), Bool.and_false])))
          · skip
            refine z_iconst (pc := 66) cx dX5_hasFrameOn_66 ?_
            exact (z_retb (pc := 67) (b := hfF C i P w t) cx rx (by decide) (by decide) dX5_hasFrameOn_67 (by rw [hfF, decide_eq_true (p := hopF P w ≠ -1) c_11, anyN_iff.mpr ⟨j, by omega, by rw [hfJ, decide_eq_true c_51, decide_eq_true c_63]; rfl⟩]; rfl) ⟨rfl, rfl⟩)
    exact J19 (C (13 + i) 4).toNat 0 _ (by omega) (fun k q => absurd q (Nat.not_lt_zero _))
  · skip
    refine z_iconst (pc := 14) cx dX5_hasFrameOn_14 ?_
    exact (z_retb (pc := 15) (b := hfF C i P w t) cx rx (by decide) (by decide) dX5_hasFrameOn_15 (by rw [hfF, decide_eq_false (p := hopF P w ≠ -1) (fun q => q c_11)]; rfl) ⟨rfl, rfl⟩)
