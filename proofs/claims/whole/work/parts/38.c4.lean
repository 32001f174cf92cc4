/-! contracts (walks laid by program) -/
set_option maxRecDepth 100000 in
set_option maxHeartbeats 4000000 in
theorem c_X6_clear {lc : Launch} {dA : Nat → ClassId} {cd : Nat → Nat} {σ0 : hS} {C : mS} {R : cR} (hc : cat dA cd σ0 C R) : gM lc dA yX6_clear (.code yX6_clear cX6_clear 1 none) { frames := 0, cells := 0, slots := 0, locals := 0 } σ0 [.ref (cd 0)] (cP dA cd σ0 none (mw C 0 2 0) (R)) nX := by
  refine gM_body (by decide +kernel) (by simp [Value.category]) (Nat.le_of_ble_eq_true rfl) (fun Γ hdA cx rx nx => ?_)
  subst hdA
  have cx : CX lc Γ cX6_clear RX6 1 { frames := 0, cells := 0, slots := 0, locals := 0 } := cx
  show G Γ σ0 0 0 0 [some (.ref (cd 0))] []
  have hF : cFr cd σ0 σ0 := cFr.rf
  refine z_al_1_0 (pc := 0) cx dX6_clear_0 ?_
  refine z_iconst (pc := 1) cx dX6_clear_1 ?_
  refine c_put (pc := 2) cx hc hF (by omega) fl_X6_66 rfl rfl (show (2 : Nat) < 10 by decide) (⟨rfl, rfl⟩) (xS2) mw_ne dX6_clear_2 ?_
  intro σ hc hF
  exact g_return (pc := 5) cx rx (by decide) (by decide) dX6_clear_5 ⟨rfl, hc, hF⟩

set_option maxRecDepth 100000 in
set_option maxHeartbeats 4000000 in
theorem c_X6_tries {lc : Launch} {dA : Nat → ClassId} {cd : Nat → Nat} {σ0 : hS} {C : mS} {R : cR} (hc : cat dA cd σ0 C R) : gM lc dA yX6_tries (.code yX6_tries cX6_tries 1 (some .int)) { frames := 0, cells := 0, slots := 0, locals := 0 } σ0 [.ref (cd 0)] (cP dA cd σ0 (some (.int (iI (C 3 0)))) (C) (R)) nX := by
  refine gM_body (by decide +kernel) (by simp [Value.category]) (Nat.le_of_ble_eq_true rfl) (fun Γ hdA cx rx nx => ?_)
  subst hdA
  have cx : CX lc Γ cX6_tries RX6 1 { frames := 0, cells := 0, slots := 0, locals := 0 } := cx
  show G Γ σ0 0 0 0 [some (.ref (cd 0))] []
  have hF : cFr cd σ0 σ0 := cFr.rf
  refine z_al_1_0 (pc := 0) cx dX6_tries_0 ?_
  refine g_getf (pc := 1) cx fl_X6_22 hc.x rfl dX6_tries_1 ?_
  refine g_getf (pc := 4) cx fl_X6_102 hc.se rfl dX6_tries_4 ?_
  exact z_ret (pc := 7) cx rx (by decide) (by decide) dX6_tries_7 ⟨rfl, hc, hF⟩

set_option maxRecDepth 100000 in
set_option maxHeartbeats 4000000 in
theorem c_X6_delay {lc : Launch} {dA : Nat → ClassId} {cd : Nat → Nat} {σ0 : hS} {C : mS} {R : cR} (hst : lc.stackTraces = false) (hc : cat dA cd σ0 C R) {w t : Int} (hw : -2147483648 ≤ w ∧ w ≤ 2147483647) (ht : -2147483648 ≤ t ∧ t ≤ 2147483647) : gM lc dA yX6_delay (.code yX6_delay cX6_delay 3 none) { frames := 7, cells := 2, slots := 12, locals := 116 } σ0 [.ref (cd 0), .int (iI w), .int (iI t)] (cQ dA cd σ0 (thD w t) none (mw C 1 w t) (R)) (cX3 σ0 (thD w t) E_112 E_44 E_70) := by
  refine gM_body (by decide +kernel) (by simp [Value.category]) (Nat.le_of_ble_eq_true rfl) (fun Γ hdA cx rx nx => ?_)
  subst hdA
  have cx : CX lc Γ cX6_delay RX6 3 { frames := 7, cells := 2, slots := 12, locals := 116 } := cx
  show G Γ σ0 0 0 0 [some (.ref (cd 0)), some (.int (iI w)), some (.int (iI t))] []
  have hF : cFr cd σ0 σ0 := cFr.rf
  refine z_il_3_1 (pc := 0) cx dX6_delay_0 ?_
  refine g_callS (pc := 1) cx lk_X6_40 (c_X6_requireLink hst hw) gy_X6_requireLink ⟨⟨by decide, by decide⟩, by decide, by decide⟩ rfl (Nat.le_of_ble_eq_true rfl) rfl dX6_delay_1 (fun E σ9 hX => ?_) (fun v9 σ9 hX => ?_)
  · obtain ⟨rfl, hbad, rfl⟩ := hX
    exact gx_out cx rx nx (by decide) (by decide) (⟨Or.inl ⟨rfl, (by
  unfold thD
  (repeat' split) <;> omega)⟩, rfl⟩)
  obtain ⟨rfl, hgood1, rfl⟩ := hX
  show G Γ _ _ _ 4 _ _
  refine z_il_3_2 (pc := 4) cx dX6_delay_4 ?_
  refine z_if_lt (pc := 5) (tgt := 14) cx (by omega) (by decide) dX6_delay_5 (fun c_5 => ?_) (fun c_5 => ?_)
  · skip
    exact g_throwS (pc := 14) cx hst rx nx rfl (cls := E_44) (text := T_46) (by simp [gExc]) (by decide +kernel) thr_44 dX6_delay_14 dX6_delay_17 dX6_delay_18 dX6_delay_20 dX6_delay_23 ⟨by decide, Nat.le_of_ble_eq_true rfl, by decide, by decide⟩ ⟨by decide, by decide⟩ (⟨Or.inr (Or.inl ⟨rfl, (by
  unfold thD
  (repeat' split) <;> omega)⟩), rfl⟩)
  · skip
    refine z_il_3_2 (pc := 8) cx dX6_delay_8 ?_
    refine z_bipush (pc := 9) cx rfl dX6_delay_9 ?_
    refine z_icmp_le (pc := 11) (tgt := 24) cx (by omega) (by decide) dX6_delay_11 (fun c_11 => ?_) (fun c_11 => ?_)
    · skip
      refine z_al_3_0 (pc := 24) cx dX6_delay_24 ?_
      refine g_getf (pc := 25) cx fl_X6_9 hc.x rfl dX6_delay_25 ?_
      refine z_il_3_1 (pc := 28) cx dX6_delay_28 ?_
      refine z_il_3_2 (pc := 29) cx dX6_delay_29 ?_
      refine c_iast (pc := 30) (L := 6) cx hc hF rfl (by decide) (by omega) dX6_delay_30 (by omega) ?_
      intro σ hc hF
      exact g_return (pc := 31) cx rx (by decide) (by decide) dX6_delay_31 ⟨(by
        unfold thD
        (repeat' split) <;> omega), rfl, hc, hF⟩
    · skip
      exact g_throwS (pc := 14) cx hst rx nx rfl (cls := E_44) (text := T_46) (by simp [gExc]) (by decide +kernel) thr_44 dX6_delay_14 dX6_delay_17 dX6_delay_18 dX6_delay_20 dX6_delay_23 ⟨by decide, Nat.le_of_ble_eq_true rfl, by decide, by decide⟩ ⟨by decide, by decide⟩ (⟨Or.inr (Or.inl ⟨rfl, (by
  unfold thD
  (repeat' split) <;> omega)⟩), rfl⟩)

set_option maxRecDepth 100000 in
set_option maxHeartbeats 4000000 in
theorem c_X6_offset {lc : Launch} {dA : Nat → ClassId} {cd : Nat → Nat} {σ0 : hS} {C : mS} {R : cR} (hst : lc.stackTraces = false) (hc : cat dA cd σ0 C R) {n : Int} {Q : Nat → mS} (hs : scO dA cd σ0 (R 0 4) n Q) {i : Int} (hi : -2147483648 ≤ i ∧ i ≤ 2147483647) : gM lc dA yX6_offset (.code yX6_offset cX6_offset 2 (some .int)) { frames := 7, cells := 2, slots := 12, locals := 116 } σ0 [.ref (cd 0), .int (iI i)] (cQ dA cd σ0 (thOn n i) (some (.int (iI (Q i.toNat 7 0)))) (C) (R)) (cX3 σ0 (thOn n i) E_208 E_112 E_70) := by
  refine gM_body (by decide +kernel) (by simp [Value.category]) (Nat.le_of_ble_eq_true rfl) (fun Γ hdA cx rx nx => ?_)
  subst hdA
  have cx : CX lc Γ cX6_offset RX6 2 { frames := 7, cells := 2, slots := 12, locals := 116 } := cx
  show G Γ σ0 0 0 0 [some (.ref (cd 0)), some (.int (iI i))] []
  have hF : cFr cd σ0 σ0 := cFr.rf
  refine z_al_2_0 (pc := 0) cx dX6_offset_0 ?_
  refine g_callV (pc := 1) cx lk_X6_105 (c_X6_requireFound hst hc hs) hc.x rfl gy_X6_requireFound ⟨⟨by decide, by decide⟩, by decide, by decide⟩ rfl (Nat.le_of_ble_eq_true rfl) rfl dX6_offset_1 (fun E σ9 hX => ?_) (fun v9 σ9 hX => ?_)
  · obtain ⟨rfl, hbad, rfl⟩ := hX
    exact gx_out cx rx nx (by decide) (by decide) (⟨Or.inl ⟨rfl, (by
  unfold thOn
  (repeat' split) <;> omega)⟩, rfl⟩)
  obtain ⟨rfl, hgood1, rfl⟩ := hX
  show G Γ _ _ _ 4 _ _
  obtain ⟨a, hr, hn, hsc⟩ := hs.some hgood1
  obtain ⟨arr, A, s0, s1, s2⟩ := id hsc
  refine z_il_2_1 (pc := 4) cx dX6_offset_4 ?_
  refine z_if_lt (pc := 5) (tgt := 20) cx (by omega) (by decide) dX6_offset_5 (fun c_5 => ?_) (fun c_5 => ?_)
  · skip
    exact g_throwS (pc := 20) cx hst rx nx rfl (cls := E_112) (text := T_114) (by simp [gExc]) (by decide +kernel) thr_112 dX6_offset_20 dX6_offset_23 dX6_offset_24 dX6_offset_26 dX6_offset_29 ⟨by decide, Nat.le_of_ble_eq_true rfl, by decide, by decide⟩ ⟨by decide, by decide⟩ (⟨Or.inr (Or.inl ⟨rfl, (by
  unfold thOn
  (repeat' split) <;> omega)⟩), rfl⟩)
  · skip
    refine z_il_2_1 (pc := 8) cx dX6_offset_8 ?_
    refine z_al_2_0 (pc := 9) cx dX6_offset_9 ?_
    refine g_getf (pc := 10) (v := .ref a) cx fl_X6_98 hc.x (by show some (va_rf (R 0 4)) = _; rw [hr]; rfl) dX6_offset_10 ?_
    refine g_getf (pc := 13) cx fl_X6_108 s0.1 rfl dX6_offset_13 ?_
    refine g_len (pc := 16) (t := 2) (v := iI n) cx s1.1 rfl (by rw [← Int32.ofInt_eq_ofNat]; show iI _ = _; rw [Int.toNat_of_nonneg hn.1]) dX6_offset_16 ?_
    refine z_icmp_lt (pc := 17) (tgt := 30) cx (by omega) (by decide) dX6_offset_17 (fun c_17 => ?_) (fun c_17 => ?_)
    · skip
      obtain ⟨i1, rfl⟩ : ∃ i1 : Nat, i = (i1 : Int) := ⟨i.toNat, by omega⟩
      refine z_al_2_0 (pc := 30) cx dX6_offset_30 ?_
      refine g_getf (pc := 31) (v := .ref a) cx fl_X6_98 hc.x (by show some (va_rf (R 0 4)) = _; rw [hr]; rfl) dX6_offset_31 ?_
      refine g_getf (pc := 34) cx fl_X6_108 s0.1 rfl dX6_offset_34 ?_
      refine z_il_2_1 (pc := 37) cx dX6_offset_37 ?_
      obtain ⟨ai, hA, hpi⟩ := s2 i1 (by omega)
      obtain ⟨pa, ba, ea, sa, q0, -⟩ := id hpi
      refine g_aald2 (pc := 38) cx s1.1 (iI_in (by omega) (by omega)) dX6_offset_38 ?_
      rw [iI_cl (by omega), Int.toNat_natCast, hA]
      show G Γ _ _ _ 39 _ (.ref ai :: _)
      refine g_getf (pc := 39) cx fl_X6_117 q0.1 rfl dX6_offset_39 ?_
      exact z_ret (pc := 42) cx rx (by decide) (by decide) dX6_offset_42 ⟨(by
        unfold thOn
        (repeat' split) <;> omega), (by rw [Int.toNat_natCast]), hc, hF⟩
    · skip
      exact g_throwS (pc := 20) cx hst rx nx rfl (cls := E_112) (text := T_114) (by simp [gExc]) (by decide +kernel) thr_112 dX6_offset_20 dX6_offset_23 dX6_offset_24 dX6_offset_26 dX6_offset_29 ⟨by decide, Nat.le_of_ble_eq_true rfl, by decide, by decide⟩ ⟨by decide, by decide⟩ (⟨Or.inr (Or.inl ⟨rfl, (by
  unfold thOn
  (repeat' split) <;> omega)⟩), rfl⟩)

set_option maxRecDepth 100000 in
set_option maxHeartbeats 4000000 in
theorem c_X6_gate {lc : Launch} {dA : Nat → ClassId} {cd : Nat → Nat} {σ0 : hS} {C : mS} {R : cR} (hst : lc.stackTraces = false) (hc : cat dA cd σ0 C R) {n : Int} {Q : Nat → mS} (hs : scO dA cd σ0 (R 0 4) n Q) (hq : ∀ i, i < n.toNat → PW (Q i)) {w t : Int} (hw : -2147483648 ≤ w ∧ w ≤ 2147483647) (ht : -2147483648 ≤ t ∧ t ≤ 2147483647) : gM lc dA yX6_gate (.code yX6_gate cX6_gate 3 (some .int)) { frames := 7, cells := 3, slots := 18, locals := 116 } σ0 [.ref (cd 0), .int (iI w), .int (iI t)] (cQ dA cd σ0 (thGn n w t) (some (.int (iI (owF n.toNat Q w t)))) (C) (R)) (cX3 σ0 (thGn n w t) E_112 E_44 E_208) := by
  refine gM_body (by decide +kernel) (by simp [Value.category]) (Nat.le_of_ble_eq_true rfl) (fun Γ hdA cx rx nx => ?_)
  subst hdA
  have cx : CX lc Γ cX6_gate RX6 3 { frames := 7, cells := 3, slots := 18, locals := 116 } := cx
  show G Γ σ0 0 0 0 [some (.ref (cd 0)), some (.int (iI w)), some (.int (iI t))] []
  have hF : cFr cd σ0 σ0 := cFr.rf
  refine z_il_3_1 (pc := 0) cx dX6_gate_0 ?_
  refine g_callS (pc := 1) cx lk_X6_40 (c_X6_requireLink hst hw) gy_X6_requireLink ⟨⟨by decide, by decide⟩, by decide, by decide⟩ rfl (Nat.le_of_ble_eq_true rfl) rfl dX6_gate_1 (fun E σ9 hX => ?_) (fun v9 σ9 hX => ?_)
  · obtain ⟨rfl, hbad, rfl⟩ := hX
    exact gx_out cx rx nx (by decide) (by decide) (⟨Or.inl ⟨rfl, (by
  unfold thGn
  (repeat' split) <;> omega)⟩, rfl⟩)
  obtain ⟨rfl, hgood1, rfl⟩ := hX
  show G Γ _ _ _ 4 _ _
  refine z_il_3_2 (pc := 4) cx dX6_gate_4 ?_
  refine z_if_lt (pc := 5) (tgt := 14) cx (by omega) (by decide) dX6_gate_5 (fun c_5 => ?_) (fun c_5 => ?_)
  · skip
    exact g_throwS (pc := 14) cx hst rx nx rfl (cls := E_44) (text := T_120) (by simp [gExc]) (by decide +kernel) thr_44 dX6_gate_14 dX6_gate_17 dX6_gate_18 dX6_gate_20 dX6_gate_23 ⟨by decide, Nat.le_of_ble_eq_true rfl, by decide, by decide⟩ ⟨by decide, by decide⟩ (⟨Or.inr (Or.inl ⟨rfl, (by
  unfold thGn
  (repeat' split) <;> omega)⟩), rfl⟩)
  · skip
    refine z_il_3_2 (pc := 8) cx dX6_gate_8 ?_
    refine z_bipush (pc := 9) cx rfl dX6_gate_9 ?_
    refine z_icmp_lt (pc := 11) (tgt := 24) cx (by omega) (by decide) dX6_gate_11 (fun c_11 => ?_) (fun c_11 => ?_)
    · skip
      refine z_al_3_0 (pc := 24) cx dX6_gate_24 ?_
      refine g_callV (pc := 25) cx lk_X6_105 (c_X6_requireFound hst hc hs) hc.x rfl gy_X6_requireFound ⟨⟨by decide, by decide⟩, by decide, by decide⟩ rfl (Nat.le_of_ble_eq_true rfl) rfl dX6_gate_25 (fun E σ9 hX => ?_) (fun v9 σ9 hX => ?_)
      · obtain ⟨rfl, hbad, rfl⟩ := hX
        exact gx_out cx rx nx (by decide) (by decide) (⟨Or.inr (Or.inr ⟨rfl, (by
  unfold thGn
  (repeat' split) <;> omega)⟩), rfl⟩)
      obtain ⟨rfl, hgood25, rfl⟩ := hX
      show G Γ _ _ _ 28 _ _
      obtain ⟨a, hr, hn, hsc⟩ := hs.some hgood25
      obtain ⟨arr, A, s0, s1, s2⟩ := id hsc
      refine z_al_3_0 (pc := 28) cx dX6_gate_28 ?_
      refine g_getf (pc := 29) (v := .ref a) cx fl_X6_98 hc.x (by show some (va_rf (R 0 4)) = _; rw [hr]; rfl) dX6_gate_29 ?_
      refine z_il_3_1 (pc := 32) cx dX6_gate_32 ?_
      refine z_il_3_2 (pc := 33) cx dX6_gate_33 ?_
      refine s_callV (pc := 34) cx lk_X6_122 (c_X2_ownerOf hsc (by omega) hq hgood1) s0.1 rfl gy_X2_ownerOf ⟨⟨by decide, by decide⟩, by decide, by decide⟩ ⟨rfl, rfl⟩ rfl rfl (Nat.le_of_ble_eq_true rfl) dX6_gate_34 ?_
      show G Γ _ _ _ 37 _ (.int _ :: _)
      exact z_ret (pc := 37) cx rx (by decide) (by decide) dX6_gate_37 ⟨(by
        unfold thGn
        (repeat' split) <;> omega), rfl, hc, hF⟩
    · skip
      exact g_throwS (pc := 14) cx hst rx nx rfl (cls := E_44) (text := T_120) (by simp [gExc]) (by decide +kernel) thr_44 dX6_gate_14 dX6_gate_17 dX6_gate_18 dX6_gate_20 dX6_gate_23 ⟨by decide, Nat.le_of_ble_eq_true rfl, by decide, by decide⟩ ⟨by decide, by decide⟩ (⟨Or.inr (Or.inl ⟨rfl, (by
  unfold thGn
  (repeat' split) <;> omega)⟩), rfl⟩)

set_option maxRecDepth 100000 in
set_option maxHeartbeats 4000000 in
theorem c_X6_activate {lc : Launch} {dA : Nat → ClassId} {cd : Nat → Nat} {σ0 : hS} {C : mS} {R : cR} (hst : lc.stackTraces = false) (hc : cat dA cd σ0 C R) {n : Int} {Q : Nat → mS} (hs : scO dA cd σ0 (R 0 4) n Q) : gM lc dA yX6_activate (.code yX6_activate cX6_activate 1 none) { frames := 7, cells := 1, slots := 6, locals := 116 } σ0 [.ref (cd 0)] (cQ dA cd σ0 (thAn n) none (C) (rwr R 0 5 (R 0 4))) (cX3 σ0 (thAn n) E_208 E_44 E_70) := by
  refine gM_body (by decide +kernel) (by simp [Value.category]) (Nat.le_of_ble_eq_true rfl) (fun Γ hdA cx rx nx => ?_)
  subst hdA
  have cx : CX lc Γ cX6_activate RX6 1 { frames := 7, cells := 1, slots := 6, locals := 116 } := cx
  show G Γ σ0 0 0 0 [some (.ref (cd 0))] []
  have hF : cFr cd σ0 σ0 := cFr.rf
  refine z_al_1_0 (pc := 0) cx dX6_activate_0 ?_
  refine g_callV (pc := 1) cx lk_X6_105 (c_X6_requireFound hst hc hs) hc.x rfl gy_X6_requireFound ⟨⟨by decide, by decide⟩, by decide, by decide⟩ rfl (Nat.le_of_ble_eq_true rfl) rfl dX6_activate_1 (fun E σ9 hX => ?_) (fun v9 σ9 hX => ?_)
  · obtain ⟨rfl, hbad, rfl⟩ := hX
    exact gx_out cx rx nx (by decide) (by decide) (⟨Or.inl ⟨rfl, (by
  unfold thAn
  (repeat' split) <;> omega)⟩, rfl⟩)
  obtain ⟨rfl, hgood1, rfl⟩ := hX
  show G Γ _ _ _ 4 _ _
  obtain ⟨a, hr, hn, hsc⟩ := hs.some hgood1
  obtain ⟨arr, A, s0, s1, s2⟩ := id hsc
  refine z_al_1_0 (pc := 4) cx dX6_activate_4 ?_
  refine z_al_1_0 (pc := 5) cx dX6_activate_5 ?_
  refine g_getf (pc := 6) (v := .ref a) cx fl_X6_98 hc.x (by show some (va_rf (R 0 4)) = _; rw [hr]; rfl) dX6_activate_6 ?_
  refine c_putR (pc := 9) (r := some a) cx hc hF (by omega) fl_X6_126 rfl rfl (show (5 : Nat) < 10 by decide) ⟨rfl, rfl⟩ (xR5) rwr_ne dX6_activate_9 ?_
  intro σ hc hF
  rw [← hr] at hc
  exact g_return (pc := 12) cx rx (by decide) (by decide) dX6_activate_12 ⟨(by
    unfold thAn
    (repeat' split) <;> omega), rfl, hc, hF⟩

set_option maxRecDepth 100000 in
set_option maxHeartbeats 4000000 in
theorem c_X6_talk {lc : Launch} {dA : Nat → ClassId} {cd : Nat → Nat} {σ0 : hS} {C : mS} {R : cR} (hst : lc.stackTraces = false) (hc : cat dA cd σ0 C R) {n : Int} {Q : Nat → mS} (hs : scO dA cd σ0 (R 0 6) n Q) {i on t : Int} (hi : -2147483648 ≤ i ∧ i ≤ 2147483647) (ho : on = 0 ∨ on = 1) (ht : -2147483648 ≤ t ∧ t ≤ 2147483647) : gM lc dA yX6_talk (.code yX6_talk cX6_talk 4 none) { frames := 7, cells := 2, slots := 12, locals := 117 } σ0 [.ref (cd 0), .int (iI i), .int (iI on), .int (iI t)] (cQ dA cd σ0 (thKn n i t) none (mw (mw C (13 + i.toNat) 1 on) (13 + i.toNat) 2 t) (R)) (cX3 σ0 (thKn n i t) E_112 E_44 E_70) := by
  refine gM_body (by decide +kernel) (by simp [Value.category]) (Nat.le_of_ble_eq_true rfl) (fun Γ hdA cx rx nx => ?_)
  subst hdA
  have cx : CX lc Γ cX6_talk RX6 4 { frames := 7, cells := 2, slots := 12, locals := 117 } := cx
  show G Γ σ0 0 0 0 [some (.ref (cd 0)), some (.int (iI i)), some (.int (iI on)), some (.int (iI t))] []
  have hF : cFr cd σ0 σ0 := cFr.rf
  have hnr := hs.r
  refine z_al_4_0 (pc := 0) cx dX6_talk_0 ?_
  refine z_il_4_1 (pc := 1) cx dX6_talk_1 ?_
  refine g_callV (pc := 2) cx lk_X6_137 (c_X6_requireInForce hst hc hs hi) hc.x rfl gy_X6_requireInForce ⟨⟨by decide, by decide⟩, by decide, by decide⟩ rfl (Nat.le_of_ble_eq_true rfl) rfl dX6_talk_2 (fun E σ9 hX => ?_) (fun v9 σ9 hX => ?_)
  · obtain ⟨rfl, hbad, rfl⟩ := hX
    exact gx_out cx rx nx (by decide) (by decide) (⟨Or.inl ⟨rfl, (by
  unfold thKn
  (repeat' split) <;> omega)⟩, rfl⟩)
  obtain ⟨rfl, hgood2, rfl⟩ := hX
  show G Γ _ _ _ 5 _ _
  refine z_il_4_3 (pc := 5) cx dX6_talk_5 ?_
  refine z_if_lt (pc := 6) (tgt := 15) cx (by omega) (by decide) dX6_talk_6 (fun c_6 => ?_) (fun c_6 => ?_)
  · skip
    exact g_throwS (pc := 15) cx hst rx nx rfl (cls := E_44) (text := T_140) (by simp [gExc]) (by decide +kernel) thr_44 dX6_talk_15 dX6_talk_18 dX6_talk_19 dX6_talk_21 dX6_talk_24 ⟨by decide, Nat.le_of_ble_eq_true rfl, by decide, by decide⟩ ⟨by decide, by decide⟩ (⟨Or.inr (Or.inl ⟨rfl, (by
  unfold thKn
  (repeat' split) <;> omega)⟩), rfl⟩)
  · skip
    refine z_il_4_3 (pc := 9) cx dX6_talk_9 ?_
    refine z_bipush (pc := 10) cx rfl dX6_talk_10 ?_
    refine z_icmp_le (pc := 12) (tgt := 25) cx (by omega) (by decide) dX6_talk_12 (fun c_12 => ?_) (fun c_12 => ?_)
    · skip
      obtain ⟨i1, rfl⟩ : ∃ i1 : Nat, i = (i1 : Int) := ⟨i.toNat, by omega⟩
      refine z_al_4_0 (pc := 25) cx dX6_talk_25 ?_
      refine g_getf (pc := 26) cx fl_X6_28 hc.x rfl dX6_talk_26 ?_
      refine z_il_4_1 (pc := 29) cx dX6_talk_29 ?_
      refine c_tks (pc := 30) cx hc dX6_talk_30 (by omega) ?_
      refine z_il_4_2 (pc := 31) cx dX6_talk_31 ?_
      refine c_put (pc := 32) cx hc hF (by omega) fl_X6_142 rfl (cE_tk (by omega)) (show (1 : Nat) < 10 by decide) (nzb (ho)) (tkS1 (by omega)) mw_ne dX6_talk_32 ?_
      intro σ hc hF
      refine z_al_4_0 (pc := 35) cx dX6_talk_35 ?_
      refine g_getf (pc := 36) cx fl_X6_28 hc.x rfl dX6_talk_36 ?_
      refine z_il_4_1 (pc := 39) cx dX6_talk_39 ?_
      refine c_tks (pc := 40) cx hc dX6_talk_40 (by omega) ?_
      refine z_il_4_3 (pc := 41) cx dX6_talk_41 ?_
      refine c_put (pc := 42) cx hc hF (by omega) fl_X6_146 rfl (cE_tk (by omega)) (show (2 : Nat) < 10 by decide) (⟨rfl, rfl⟩) (tkS2 (by omega)) mw_ne dX6_talk_42 ?_
      intro σ hc hF
      exact g_return (pc := 45) cx rx (by decide) (by decide) dX6_talk_45 ⟨(by
        unfold thKn
        (repeat' split) <;> omega), rfl, hc, hF⟩
    · skip
      exact g_throwS (pc := 15) cx hst rx nx rfl (cls := E_44) (text := T_140) (by simp [gExc]) (by decide +kernel) thr_44 dX6_talk_15 dX6_talk_18 dX6_talk_19 dX6_talk_21 dX6_talk_24 ⟨by decide, Nat.le_of_ble_eq_true rfl, by decide, by decide⟩ ⟨by decide, by decide⟩ (⟨Or.inr (Or.inl ⟨rfl, (by
  unfold thKn
  (repeat' split) <;> omega)⟩), rfl⟩)

set_option maxRecDepth 100000 in
set_option maxHeartbeats 4000000 in
theorem c_X6_unblock {lc : Launch} {dA : Nat → ClassId} {cd : Nat → Nat} {σ0 : hS} {C : mS} {R : cR} (hst : lc.stackTraces = false) (hc : cat dA cd σ0 C R) {n : Int} {Q : Nat → mS} (hs : scO dA cd σ0 (R 0 6) n Q) {i : Int} (hi : -2147483648 ≤ i ∧ i ≤ 2147483647) (hb : ∀ i, i < 5 → C (13 + i) 3 = 0 ∨ C (13 + i) 3 = 1) : gM lc dA yX6_unblock (.code yX6_unblock cX6_unblock 3 (some .boolean)) { frames := 7, cells := 1, slots := 6, locals := 117 } σ0 [.ref (cd 0), .int (iI i)] (cQ dA cd σ0 (thUn n i) (some (.int (iI (bz (decide (C (13 + i.toNat) 3 ≠ 0)))))) (mw C (13 + i.toNat) 3 0) (R)) (cX3 σ0 (thUn n i) E_112 E_44 E_70) := by
  refine gM_body (by decide +kernel) (by simp [Value.category]) (Nat.le_of_ble_eq_true rfl) (fun Γ hdA cx rx nx => ?_)
  subst hdA
  have cx : CX lc Γ cX6_unblock RX6 3 { frames := 7, cells := 1, slots := 6, locals := 117 } := cx
  show G Γ σ0 0 0 0 [some (.ref (cd 0)), some (.int (iI i)), none] []
  have hF : cFr cd σ0 σ0 := cFr.rf
  have hnr := hs.r
  refine z_al_3_0 (pc := 0) cx dX6_unblock_0 ?_
  refine z_il_3_1 (pc := 1) cx dX6_unblock_1 ?_
  refine g_callV (pc := 2) cx lk_X6_137 (c_X6_requireInForce hst hc hs hi) hc.x rfl gy_X6_requireInForce ⟨⟨by decide, by decide⟩, by decide, by decide⟩ rfl (Nat.le_of_ble_eq_true rfl) rfl dX6_unblock_2 (fun E σ9 hX => ?_) (fun v9 σ9 hX => ?_)
  · obtain ⟨rfl, hbad, rfl⟩ := hX
    exact gx_out cx rx nx (by decide) (by decide) (⟨Or.inl ⟨rfl, (by
  unfold thUn
  (repeat' split) <;> omega)⟩, rfl⟩)
  obtain ⟨rfl, hgood2, rfl⟩ := hX
  show G Γ _ _ _ 5 _ _
  obtain ⟨i1, rfl⟩ : ∃ i1 : Nat, i = (i1 : Int) := ⟨i.toNat, by omega⟩
  have hbi := hb i1 (by omega)
  refine z_al_3_0 (pc := 5) cx dX6_unblock_5 ?_
  refine g_getf (pc := 6) cx fl_X6_28 hc.x rfl dX6_unblock_6 ?_
  refine z_il_3_1 (pc := 9) cx dX6_unblock_9 ?_
  refine c_tks (pc := 10) cx hc dX6_unblock_10 (by omega) ?_
  refine g_getf (pc := 11) cx fl_X6_149 (hc.tk (by omega)) rfl dX6_unblock_11 ?_
  refine z_is_3_2 (pc := 14) cx dX6_unblock_14 ?_
  refine z_al_3_0 (pc := 15) cx dX6_unblock_15 ?_
  refine g_getf (pc := 16) cx fl_X6_28 hc.x rfl dX6_unblock_16 ?_
  refine z_il_3_1 (pc := 19) cx dX6_unblock_19 ?_
  refine c_tks (pc := 20) cx hc dX6_unblock_20 (by omega) ?_
  refine z_iconst (pc := 21) cx dX6_unblock_21 ?_
  refine c_put (pc := 22) cx hc hF (by omega) fl_X6_149 rfl (cE_tk (by omega)) (show (3 : Nat) < 10 by decide) (nzb (by omega)) (tkS3 (by omega)) mw_ne dX6_unblock_22 ?_
  intro σ hc hF
  refine z_il_3_2 (pc := 25) cx dX6_unblock_25 ?_
  exact (z_retb (pc := 26) (b := decide (C (13 + i1) 3 ≠ 0)) cx rx (by decide) (by decide) dX6_unblock_26 (bzd (by omega)) ⟨(by
    unfold thUn
    (repeat' split) <;> omega), rfl, hc, hF⟩)

set_option maxRecDepth 100000 in
set_option maxHeartbeats 4000000 in
theorem c_X6_babble {lc : Launch} {dA : Nat → ClassId} {cd : Nat → Nat} {σ0 : hS} {C : mS} {R : cR} (hst : lc.stackTraces = false) (hc : cat dA cd σ0 C R) (hp : ∀ l, l < 6 → PtW C l) {w t : Int} (hw : -2147483648 ≤ w ∧ w ≤ 2147483647) (ht : -2147483648 ≤ t ∧ t ≤ 2147483647) : gM lc dA yX6_babble (.code yX6_babble cX6_babble 4 (some .int)) { frames := 7, cells := 3, slots := 18, locals := 116 } σ0 [.ref (cd 0), .int (iI w), .int (iI t)] (cQ dA cd σ0 (thBn (C (24 + w.toNat) 1) w t) (some (.int (iI (C (24 + w.toNat) 1 + 1)))) (apF C w.toNat t) (R)) (cX3 σ0 (thBn (C (24 + w.toNat) 1) w t) E_112 E_44 E_70) := by
  refine gM_body (by decide +kernel) (by simp [Value.category]) (Nat.le_of_ble_eq_true rfl) (fun Γ hdA cx rx nx => ?_)
  subst hdA
  have cx : CX lc Γ cX6_babble RX6 4 { frames := 7, cells := 3, slots := 18, locals := 116 } := cx
  show G Γ σ0 0 0 0 [some (.ref (cd 0)), some (.int (iI w)), some (.int (iI t)), none] []
  have hF : cFr cd σ0 σ0 := cFr.rf
  refine z_il_4_1 (pc := 0) cx dX6_babble_0 ?_
  refine g_callS (pc := 1) cx lk_X6_40 (c_X6_requireLink hst hw) gy_X6_requireLink ⟨⟨by decide, by decide⟩, by decide, by decide⟩ rfl (Nat.le_of_ble_eq_true rfl) rfl dX6_babble_1 (fun E σ9 hX => ?_) (fun v9 σ9 hX => ?_)
  · obtain ⟨rfl, hbad, rfl⟩ := hX
    exact gx_out cx rx nx (by decide) (by decide) (⟨Or.inl ⟨rfl, (by
  unfold thBn
  (repeat' split) <;> omega)⟩, rfl⟩)
  obtain ⟨rfl, hgood1, rfl⟩ := hX
  show G Γ _ _ _ 4 _ _
  refine z_il_4_2 (pc := 4) cx dX6_babble_4 ?_
  refine z_iconst (pc := 5) cx dX6_babble_5 ?_
  refine z_icmp_lt (pc := 6) (tgt := 15) cx (by omega) (by decide) dX6_babble_6 (fun c_6 => ?_) (fun c_6 => ?_)
  · skip
    exact g_throwS (pc := 15) cx hst rx nx rfl (cls := E_44) (text := T_158) (by simp [gExc]) (by decide +kernel) thr_44 dX6_babble_15 dX6_babble_18 dX6_babble_19 dX6_babble_21 dX6_babble_24 ⟨by decide, Nat.le_of_ble_eq_true rfl, by decide, by decide⟩ ⟨by decide, by decide⟩ (⟨Or.inr (Or.inl ⟨rfl, (by
  unfold thBn
  (repeat' split) <;> omega)⟩), rfl⟩)
  · skip
    refine z_il_4_2 (pc := 9) cx dX6_babble_9 ?_
    refine z_bipush (pc := 10) cx rfl dX6_babble_10 ?_
    refine z_icmp_le (pc := 12) (tgt := 25) cx (by omega) (by decide) dX6_babble_12 (fun c_12 => ?_) (fun c_12 => ?_)
    · skip
      obtain ⟨w1, rfl⟩ : ∃ w1 : Nat, w = (w1 : Int) := ⟨w.toNat, by omega⟩
      have hpw := hp w1 (by omega)
      obtain ⟨p0, p1, p3⟩ := id hpw
      refine z_al_4_0 (pc := 25) cx dX6_babble_25 ?_
      refine g_getf (pc := 26) cx fl_X6_34 hc.x rfl dX6_babble_26 ?_
      refine z_il_4_1 (pc := 29) cx dX6_babble_29 ?_
      refine c_pts (pc := 30) cx hc dX6_babble_30 (by omega) ?_
      refine z_as_4_3 (pc := 31) cx dX6_babble_31 ?_
      refine z_al_4_3 (pc := 32) cx dX6_babble_32 ?_
      refine g_getf (pc := 33) cx fl_X6_160 (hc.pt (by omega)) rfl dX6_babble_33 ?_
      refine z_iconst (pc := 36) cx dX6_babble_36 ?_
      refine z_icmp_lt (pc := 37) (tgt := 50) cx (by omega) (by decide) dX6_babble_37 (fun c_37 => ?_) (fun c_37 => ?_)
      · skip
        refine z_al_4_3 (pc := 50) cx dX6_babble_50 ?_
        refine z_il_4_2 (pc := 51) cx dX6_babble_51 ?_
        refine c_callV (pc := 52) cx lk_X6_165 (c_X1_append hc (by omega) hpw) (hc.pt (by omega)) hF rfl gy_X1_append ⟨⟨by decide, by decide⟩, by decide, by decide⟩ ⟨rfl, rfl⟩ rfl rfl (Nat.le_of_ble_eq_true rfl) dX6_babble_52 ?_
        intro σ hc hF
        show G Γ _ _ _ 55 _ _
        refine z_al_4_3 (pc := 55) cx dX6_babble_55 ?_
        refine g_getf (pc := 56) cx fl_X6_160 (hc.pt (by omega)) rfl dX6_babble_56 ?_
        have e1 : apF C w1 t (24 + w1) 1 = C (24 + w1) 1 + 1 := by unfold apF; rw [if_pos (by omega), mw_s]
        rw [e1]
        exact z_ret (pc := 59) cx rx (by decide) (by decide) dX6_babble_59 ⟨(by
          unfold thBn
          rw [Int.toNat_natCast]
          (repeat' split) <;> omega), rfl, hc, hF⟩
      · skip
        exact g_throwS (pc := 40) cx hst rx nx rfl (cls := E_70) (text := T_163) (by simp [gExc]) (by decide +kernel) thr_70 dX6_babble_40 dX6_babble_43 dX6_babble_44 dX6_babble_46 dX6_babble_49 ⟨by decide, Nat.le_of_ble_eq_true rfl, by decide, by decide⟩ ⟨by decide, by decide⟩ (⟨Or.inr (Or.inr ⟨rfl, (by
  unfold thBn
  rw [Int.toNat_natCast]
  (repeat' split) <;> omega)⟩), rfl⟩)
    · skip
      exact g_throwS (pc := 15) cx hst rx nx rfl (cls := E_44) (text := T_158) (by simp [gExc]) (by decide +kernel) thr_44 dX6_babble_15 dX6_babble_18 dX6_babble_19 dX6_babble_21 dX6_babble_24 ⟨by decide, Nat.le_of_ble_eq_true rfl, by decide, by decide⟩ ⟨by decide, by decide⟩ (⟨Or.inr (Or.inl ⟨rfl, (by
  unfold thBn
  (repeat' split) <;> omega)⟩), rfl⟩)

set_option maxRecDepth 100000 in
set_option maxHeartbeats 4000000 in
theorem c_X6_told {lc : Launch} {dA : Nat → ClassId} {cd : Nat → Nat} {σ0 : hS} {C : mS} {R : cR} (hst : lc.stackTraces = false) (hc : cat dA cd σ0 C R) {n : Int} {Q : Nat → mS} (hs : scO dA cd σ0 (R 0 6) n Q) (hk : ∀ i, i < 5 → C (13 + i) 3 = 0 ∨ C (13 + i) 3 = 1) {i u : Int} (hi : -2147483648 ≤ i ∧ i ≤ 2147483647) (hu : -2147483648 ≤ u ∧ u ≤ 2147483647) : gM lc dA yX6_told (.code yX6_told cX6_told 4 (some .int)) { frames := 7, cells := 2, slots := 12, locals := 117 } σ0 [.ref (cd 0), .int (iI i), .int (iI u)] (cQ dA cd σ0 (thTon n i u) (some (.int (iI (toC C i u)))) (C) (R)) (cX3 σ0 (thTon n i u) E_112 E_44 E_70) := by
  refine gM_body (by decide +kernel) (by simp [Value.category]) (Nat.le_of_ble_eq_true rfl) (fun Γ hdA cx rx nx => ?_)
  subst hdA
  have cx : CX lc Γ cX6_told RX6 4 { frames := 7, cells := 2, slots := 12, locals := 117 } := cx
  show G Γ σ0 0 0 0 [some (.ref (cd 0)), some (.int (iI i)), some (.int (iI u)), none] []
  have hF : cFr cd σ0 σ0 := cFr.rf
  have hnr := hs.r
  refine z_al_4_0 (pc := 0) cx dX6_told_0 ?_
  refine z_il_4_1 (pc := 1) cx dX6_told_1 ?_
  refine g_callV (pc := 2) cx lk_X6_137 (c_X6_requireInForce hst hc hs hi) hc.x rfl gy_X6_requireInForce ⟨⟨by decide, by decide⟩, by decide, by decide⟩ rfl (Nat.le_of_ble_eq_true rfl) rfl dX6_told_2 (fun E σ9 hX => ?_) (fun v9 σ9 hX => ?_)
  · obtain ⟨rfl, hbad, rfl⟩ := hX
    exact gx_out cx rx nx (by decide) (by decide) (⟨Or.inl ⟨rfl, (by
  unfold thTon
  (repeat' split) <;> omega)⟩, rfl⟩)
  obtain ⟨rfl, hgood2, rfl⟩ := hX
  show G Γ _ _ _ 5 _ _
  obtain ⟨i1, rfl⟩ : ∃ i1 : Nat, i = (i1 : Int) := ⟨i.toNat, by omega⟩
  have hbi := hk i1 (by omega)
  refine z_al_4_0 (pc := 5) cx dX6_told_5 ?_
  refine g_getf (pc := 6) cx fl_X6_28 hc.x rfl dX6_told_6 ?_
  refine z_il_4_1 (pc := 9) cx dX6_told_9 ?_
  refine c_tks (pc := 10) cx hc dX6_told_10 (by omega) ?_
  refine z_as_4_3 (pc := 11) cx dX6_told_11 ?_
  refine z_il_4_2 (pc := 12) cx dX6_told_12 ?_
  rcases (show u = 0 ∨ u = 1 ∨ u = 2 ∨ u = 3 ∨ u = 4 ∨ u = 5 ∨ (u < 0 ∨ 5 < u) by omega) with rfl | rfl | rfl | rfl | rfl | rfl | hu4
  · refine z_tswIn (pc := 13) (a := 0) (off := 39) (tgt := 52) cx dX6_told_13 (by decide) (by decide) rfl (by decide) ?_
    refine z_al_4_3 (pc := 52) cx dX6_told_52 ?_
    refine g_getf (pc := 53) cx fl_X6_168 (hc.tk (by omega)) rfl dX6_told_53 ?_
    exact z_ret (pc := 56) cx rx (by decide) (by decide) dX6_told_56 ⟨(by
      unfold thTon
      (repeat' split) <;> omega), (by unfold toC; rw [Int.toNat_natCast]; rfl), hc, hF⟩
  · refine z_tswIn (pc := 13) (a := 1) (off := 44) (tgt := 57) cx dX6_told_13 (by decide) (by decide) rfl (by decide) ?_
    refine z_al_4_3 (pc := 57) cx dX6_told_57 ?_
    refine g_getf (pc := 58) cx fl_X6_171 (hc.tk (by omega)) rfl dX6_told_58 ?_
    exact z_ret (pc := 61) cx rx (by decide) (by decide) dX6_told_61 ⟨(by
      unfold thTon
      (repeat' split) <;> omega), (by unfold toC; rw [Int.toNat_natCast]; rfl), hc, hF⟩
  · refine z_tswIn (pc := 13) (a := 2) (off := 49) (tgt := 62) cx dX6_told_13 (by decide) (by decide) rfl (by decide) ?_
    refine z_al_4_3 (pc := 62) cx dX6_told_62 ?_
    refine g_getf (pc := 63) cx fl_X6_174 (hc.tk (by omega)) rfl dX6_told_63 ?_
    exact z_ret (pc := 66) cx rx (by decide) (by decide) dX6_told_66 ⟨(by
      unfold thTon
      (repeat' split) <;> omega), (by unfold toC; rw [Int.toNat_natCast]; rfl), hc, hF⟩
  · refine z_tswIn (pc := 13) (a := 3) (off := 54) (tgt := 67) cx dX6_told_13 (by decide) (by decide) rfl (by decide) ?_
    refine z_al_4_3 (pc := 67) cx dX6_told_67 ?_
    refine g_getf (pc := 68) cx fl_X6_177 (hc.tk (by omega)) rfl dX6_told_68 ?_
    exact z_ret (pc := 71) cx rx (by decide) (by decide) dX6_told_71 ⟨(by
      unfold thTon
      (repeat' split) <;> omega), (by unfold toC; rw [Int.toNat_natCast]; rfl), hc, hF⟩
  · refine z_tswIn (pc := 13) (a := 4) (off := 59) (tgt := 72) cx dX6_told_13 (by decide) (by decide) rfl (by decide) ?_
    refine z_al_4_3 (pc := 72) cx dX6_told_72 ?_
    refine g_getf (pc := 73) cx fl_X6_180 (hc.tk (by omega)) rfl dX6_told_73 ?_
    exact z_ret (pc := 76) cx rx (by decide) (by decide) dX6_told_76 ⟨(by
      unfold thTon
      (repeat' split) <;> omega), (by unfold toC; rw [Int.toNat_natCast]; rfl), hc, hF⟩
  · refine z_tswIn (pc := 13) (a := 5) (off := 64) (tgt := 77) cx dX6_told_13 (by decide) (by decide) rfl (by decide) ?_
    refine z_al_4_3 (pc := 77) cx dX6_told_77 ?_
    refine g_getf (pc := 78) cx fl_X6_149 (hc.tk (by omega)) rfl dX6_told_78 ?_
    refine z_if_eq (pc := 81) (tgt := 88) cx (by omega) (by decide) dX6_told_81 (fun c_81 => ?_) (fun c_81 => ?_)
    · skip
      refine z_iconst (pc := 88) cx dX6_told_88 ?_
      exact z_ret (pc := 89) cx rx (by decide) (by decide) dX6_told_89 ⟨(by
        unfold thTon
        (repeat' split) <;> omega), (by
        unfold toC
        rw [Int.toNat_natCast, if_neg (by decide), if_neg (by decide), if_neg (by decide), if_neg (by decide), if_neg (by decide)]
        first
        | rw [if_pos c_81]
        | rw [if_neg c_81]), hc, hF⟩
    · skip
      refine z_iconst (pc := 84) cx dX6_told_84 ?_
      refine g_goto (pc := 85) (tgt := 89) cx (by decide) dX6_told_85 ?_
      exact z_ret (pc := 89) cx rx (by decide) (by decide) dX6_told_89 ⟨(by
        unfold thTon
        (repeat' split) <;> omega), (by
        unfold toC
        rw [Int.toNat_natCast, if_neg (by decide), if_neg (by decide), if_neg (by decide), if_neg (by decide), if_neg (by decide)]
        first
        | rw [if_pos c_81]
        | rw [if_neg c_81]), hc, hF⟩
  · refine z_tswOut (pc := 13) (tgt := 90) cx dX6_told_13 (by omega) (by omega) (by decide) ?_
    exact g_throwS (pc := 90) cx hst rx nx rfl (cls := E_112) (text := T_183) (by simp [gExc]) (by decide +kernel) thr_112 dX6_told_90 dX6_told_93 dX6_told_94 dX6_told_96 dX6_told_99 ⟨by decide, Nat.le_of_ble_eq_true rfl, by decide, by decide⟩ ⟨by decide, by decide⟩ (⟨Or.inl ⟨rfl, (by
  unfold thTon
  (repeat' split) <;> omega)⟩, rfl⟩)

set_option maxRecDepth 100000 in
set_option maxHeartbeats 4000000 in
theorem c_X6_streams {lc : Launch} {dA : Nat → ClassId} {cd : Nat → Nat} {σ0 : hS} {C : mS} {R : cR} (hst : lc.stackTraces = false) (hc : cat dA cd σ0 C R) {n4 n5 n6 : Int} {Q4 Q5 Q6 : Nat → mS} (h4 : scO dA cd σ0 (R 0 4) n4 Q4) (h5 : scO dA cd σ0 (R 0 5) n5 Q5) (h6 : scO dA cd σ0 (R 0 6) n6 Q6) {u : Int} (hu : -2147483648 ≤ u ∧ u ≤ 2147483647) : gM lc dA yX6_streams (.code yX6_streams cX6_streams 2 (some .int)) { frames := 6, cells := 1, slots := 6, locals := 96 } σ0 [.ref (cd 0), .int (iI u)] (cQ dA cd σ0 (thSt u) (some (.int (iI (stC C n4 n5 n6 u)))) (C) (R)) (cX3 σ0 (thSt u) E_112 E_44 E_70) := by
  refine gM_body (by decide +kernel) (by simp [Value.category]) (Nat.le_of_ble_eq_true rfl) (fun Γ hdA cx rx nx => ?_)
  subst hdA
  have cx : CX lc Γ cX6_streams RX6 2 { frames := 6, cells := 1, slots := 6, locals := 96 } := cx
  show G Γ σ0 0 0 0 [some (.ref (cd 0)), some (.int (iI u))] []
  have hF : cFr cd σ0 σ0 := cFr.rf
  refine z_il_2_1 (pc := 0) cx dX6_streams_0 ?_
  rcases (show u = 0 ∨ u = 1 ∨ u = 2 ∨ u = 3 ∨ (u < 0 ∨ 3 < u) by omega) with rfl | rfl | rfl | rfl | hu4
  · refine z_tswIn (pc := 1) (a := 0) (off := 31) (tgt := 32) cx dX6_streams_1 (by decide) (by decide) rfl (by decide) ?_
    refine z_al_2_0 (pc := 32) cx dX6_streams_32 ?_
    refine g_getf (pc := 33) cx fl_X6_66 hc.x rfl dX6_streams_33 ?_
    exact z_ret (pc := 36) cx rx (by decide) (by decide) dX6_streams_36 ⟨(by
      unfold thSt
      (repeat' split) <;> omega), (by unfold stC; rfl), hc, hF⟩
  · refine z_tswIn (pc := 1) (a := 1) (off := 36) (tgt := 37) cx dX6_streams_1 (by decide) (by decide) rfl (by decide) ?_
    refine z_al_2_0 (pc := 37) cx dX6_streams_37 ?_
    refine g_getf (pc := 38) cx fl_X6_98 hc.x rfl dX6_streams_38 ?_
    refine m_callS (pc := 41) cx lk_X6_194 (c_X6_streamsOf h4) gy_X6_streamsOf ⟨⟨by decide, by decide⟩, by decide, by decide⟩ ⟨rfl, rfl⟩ rfl rfl (Nat.le_of_ble_eq_true rfl) dX6_streams_41 ?_
    show G Γ _ _ _ 44 _ (.int _ :: _)
    exact z_ret (pc := 44) cx rx (by decide) (by decide) dX6_streams_44 ⟨(by
      unfold thSt
      (repeat' split) <;> omega), (by unfold stC; rfl), hc, hF⟩
  · refine z_tswIn (pc := 1) (a := 2) (off := 44) (tgt := 45) cx dX6_streams_1 (by decide) (by decide) rfl (by decide) ?_
    refine z_al_2_0 (pc := 45) cx dX6_streams_45 ?_
    refine g_getf (pc := 46) cx fl_X6_198 hc.x rfl dX6_streams_46 ?_
    refine m_callS (pc := 49) cx lk_X6_194 (c_X6_streamsOf h6) gy_X6_streamsOf ⟨⟨by decide, by decide⟩, by decide, by decide⟩ ⟨rfl, rfl⟩ rfl rfl (Nat.le_of_ble_eq_true rfl) dX6_streams_49 ?_
    show G Γ _ _ _ 52 _ (.int _ :: _)
    exact z_ret (pc := 52) cx rx (by decide) (by decide) dX6_streams_52 ⟨(by
      unfold thSt
      (repeat' split) <;> omega), (by unfold stC; rfl), hc, hF⟩
  · refine z_tswIn (pc := 1) (a := 3) (off := 52) (tgt := 53) cx dX6_streams_1 (by decide) (by decide) rfl (by decide) ?_
    refine z_al_2_0 (pc := 53) cx dX6_streams_53 ?_
    refine g_getf (pc := 54) cx fl_X6_126 hc.x rfl dX6_streams_54 ?_
    refine m_callS (pc := 57) cx lk_X6_194 (c_X6_streamsOf h5) gy_X6_streamsOf ⟨⟨by decide, by decide⟩, by decide, by decide⟩ ⟨rfl, rfl⟩ rfl rfl (Nat.le_of_ble_eq_true rfl) dX6_streams_57 ?_
    show G Γ _ _ _ 60 _ (.int _ :: _)
    exact z_ret (pc := 60) cx rx (by decide) (by decide) dX6_streams_60 ⟨(by
      unfold thSt
      (repeat' split) <;> omega), (by unfold stC; rfl), hc, hF⟩
  · refine z_tswOut (pc := 1) (tgt := 61) cx dX6_streams_1 (by omega) (by omega) (by decide) ?_
    exact g_throwS (pc := 61) cx hst rx nx rfl (cls := E_112) (text := T_201) (by simp [gExc]) (by decide +kernel) thr_112 dX6_streams_61 dX6_streams_64 dX6_streams_65 dX6_streams_67 dX6_streams_70 ⟨by decide, Nat.le_of_ble_eq_true rfl, by decide, by decide⟩ ⟨by decide, by decide⟩ (⟨Or.inl ⟨rfl, (by
  unfold thSt
  (repeat' split) <;> omega)⟩, rfl⟩)
