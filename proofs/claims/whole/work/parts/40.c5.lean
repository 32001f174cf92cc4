/-! contracts (walks laid by program) -/
set_option maxRecDepth 100000 in
set_option maxHeartbeats 4000000 in
theorem c_X6_loseAllOn {lc : Launch} {dA : Nat → ClassId} {cd : Nat → Nat} {σ0 : hS} {C : mS} {R : cR} (hc : cat dA cd σ0 C R) {n : Int} {Q : Nat → mS} (hs : scO dA cd σ0 (R 0 6) n Q) {w : Nat} (hw6 : w < 6) (ht0 : 0 ≤ C 0 9 ∧ C 0 9 ≤ 1000000) (hk : tkH dA cd σ0 C R n.toNat Q) : gM lc dA yX6_loseAllOn (.code yX6_loseAllOn cX6_loseAllOn 3 none) { frames := 2, cells := 0, slots := 0, locals := 48 } σ0 [.ref (cd 0), .int (iI (w : Int))] (cP dA cd σ0 none (laC C n Q w) (R)) nX := by
  refine gM_body (by decide +kernel) (by simp [Value.category]) (Nat.le_of_ble_eq_true rfl) (fun Γ hdA cx rx nx => ?_)
  subst hdA
  have cx : CX lc Γ cX6_loseAllOn RX6 3 { frames := 2, cells := 0, slots := 0, locals := 48 } := cx
  show G Γ σ0 0 0 0 [some (.ref (cd 0)), some (.int (iI (w : Int))), none] []
  have hF : cFr cd σ0 σ0 := cFr.rf
  have htl : tlN n = (n.toNat : Int) := tlN_n
  have hnr := hs.r
  refine z_iconst (pc := 0) cx dX6_loseAllOn_0 ?_
  refine z_is_3_2 (pc := 1) cx dX6_loseAllOn_1 ?_
  have J2 : ∀ (z j : Nat) (T : mS) (σ : hS), j + z = n.toNat → T = loA j Q (w : Int) (C 0 9) C → cat (gdA Γ) cd σ T R → cFr cd σ0 σ → G Γ σ 0 0 2 [some (.ref (cd 0)), some (.int (iI ((w : Int)))), some (.int (iI ((j : Int))))] [] := by
    intro z
    induction z using Nat.strongRecOn with
    | _ z ih =>
    intro j T σ hjz hT hc hF
    have hI : ∀ k, (∀ i, i < j → k ≠ 13 + i ∧ k ≠ 13 + i + 5) → T k = C k := fun k hk => by rw [hT]; exact loA_k hk
    have e09 : T 0 9 = C 0 9 := by rw [hI 0 (by omega)]
    refine z_il_3_2 (pc := 2) cx dX6_loseAllOn_2 ?_
    refine z_al_3_0 (pc := 3) cx dX6_loseAllOn_3 ?_
    refine s_callV (pc := 4) cx lk_X6_213 (c_X6_talking hc (hs.fr hF)) hc.x rfl gy_X6_talking ⟨⟨by decide, by decide⟩, by decide, by decide⟩ ⟨rfl, rfl⟩ rfl rfl (Nat.le_of_ble_eq_true rfl) dX6_loseAllOn_4 ?_
    show G Γ _ _ _ 7 _ (.int _ :: _)
    refine z_icmp_ge (pc := 7) (tgt := 30) cx (by omega) (by decide) dX6_loseAllOn_7 (fun c_7 => ?_) (fun c_7 => ?_)
    · obtain rfl : j = n.toNat := by omega
      refine z_al_3_0 (pc := 30) cx dX6_loseAllOn_30 ?_
      refine g_getf (pc := 31) cx fl_X6_34 hc.x rfl dX6_loseAllOn_31 ?_
      refine z_il_3_1 (pc := 34) cx dX6_loseAllOn_34 ?_
      refine c_pts (pc := 35) cx hc dX6_loseAllOn_35 (by omega) ?_
      refine z_iconst (pc := 36) cx dX6_loseAllOn_36 ?_
      refine c_put (pc := 37) cx hc hF (by omega) fl_X6_239 rfl (cE_pt (by omega)) (show (3 : Nat) < 5 by decide) (⟨rfl, rfl⟩) (ptS3 (by omega)) mw_ne dX6_loseAllOn_37 ?_
      intro σ hc hF
      subst hT
      exact g_return (pc := 40) cx rx (by decide) (by decide) dX6_loseAllOn_40 ⟨rfl, hc, hF⟩
    · skip
      refine z_al_3_0 (pc := 10) cx dX6_loseAllOn_10 ?_
      refine g_getf (pc := 11) cx fl_X6_28 hc.x rfl dX6_loseAllOn_11 ?_
      refine z_il_3_2 (pc := 14) cx dX6_loseAllOn_14 ?_
      refine c_tks (pc := 15) cx hc dX6_loseAllOn_15 (by omega) ?_
      refine z_il_3_1 (pc := 16) cx dX6_loseAllOn_16 ?_
      refine z_al_3_0 (pc := 17) cx dX6_loseAllOn_17 ?_
      refine g_getf (pc := 18) cx fl_X6_134 hc.x rfl dX6_loseAllOn_18 ?_
      obtain ⟨kk1, kk2, ai, hR, hp⟩ := hk j (by omega)
      rw [e09]
      refine c_callV (pc := 21) cx lk_X6_258 (c_X5_loseOn hc (by omega) hR (hp.fr hF) kk2 (by omega) ht0 (TkW_k (hI _ (by omega)) (hI _ (by omega)) kk1)) (hc.tk (by omega)) hF rfl gy_X5_loseOn ⟨⟨by decide, by decide⟩, by decide, by decide⟩ ⟨rfl, rfl⟩ rfl rfl (Nat.le_of_ble_eq_true rfl) dX6_loseAllOn_21 ?_
      intro σ hc hF
      show G Γ _ _ _ 24 _ _
      refine z_ii_3_2 (pc := 24) cx dX6_loseAllOn_24 ?_
      refine g_goto (pc := 27) (tgt := 2) cx (by decide) dX6_loseAllOn_27 ?_
      exact ih (z - 1) (by omega) (j + 1) _ σ (by omega) (show _ = loF (loA j Q (w : Int) (C 0 9) C) j (Q j) (w : Int) (C 0 9) by rw [← hT]) hc hF
  exact J2 n.toNat 0 C σ0 (by omega) rfl hc hF

set_option maxRecDepth 100000 in
set_option maxHeartbeats 4000000 in
theorem c_X6_whatIsOn {lc : Launch} {dA : Nat → ClassId} {cd : Nat → Nat} {σ0 : hS} {C : mS} {R : cR} (hc : cat dA cd σ0 C R) {n : Int} {Q : Nat → mS} (hs : scO dA cd σ0 (R 0 6) n Q) {w : Nat} (hw6 : w < 6) (ht0 : 0 ≤ C 0 9 ∧ C 0 9 ≤ 1000000) (hk : tkH dA cd σ0 C R n.toNat Q) (hb3 : ∀ l, l < 6 → 0 ≤ C (24 + l) 3 ∧ C (24 + l) 3 ≤ 8) : gM lc dA yX6_whatIsOn (.code yX6_whatIsOn cX6_whatIsOn 3 (some .int)) { frames := 2, cells := 0, slots := 0, locals := 47 } σ0 [.ref (cd 0), .int (iI (w : Int))] (sP σ0 (some (.int (iI (wio C n Q w))))) nX := by
  refine gM_body (by decide +kernel) (by simp [Value.category]) (Nat.le_of_ble_eq_true rfl) (fun Γ hdA cx rx nx => ?_)
  subst hdA
  have cx : CX lc Γ cX6_whatIsOn RX6 3 { frames := 2, cells := 0, slots := 0, locals := 47 } := cx
  show G Γ σ0 0 0 0 [some (.ref (cd 0)), some (.int (iI (w : Int))), none] []
  have hF : cFr cd σ0 σ0 := cFr.rf
  have htl : tlN n = (n.toNat : Int) := tlN_n
  have hnr := hs.r
  have hb3w := hb3 w hw6
  refine z_iconst (pc := 0) cx dX6_whatIsOn_0 ?_
  refine z_is_3_2 (pc := 1) cx dX6_whatIsOn_1 ?_
  have J2 : ∀ (z j : Nat), j + z = n.toNat → (∀ k : Nat, k < j → hfF C k (Q k) (w : Int) (C 0 9) = false) → G Γ σ0 0 0 2 [some (.ref (cd 0)), some (.int (iI ((w : Int)))), some (.int (iI ((j : Int))))] [] := by
    intro z
    induction z using Nat.strongRecOn with
    | _ z ih =>
    intro j hjz hno
    refine z_il_3_2 (pc := 2) cx dX6_whatIsOn_2 ?_
    refine z_al_3_0 (pc := 3) cx dX6_whatIsOn_3 ?_
    refine s_callV (pc := 4) cx lk_X6_213 (c_X6_talking hc hs) hc.x rfl gy_X6_talking ⟨⟨by decide, by decide⟩, by decide, by decide⟩ ⟨rfl, rfl⟩ rfl rfl (Nat.le_of_ble_eq_true rfl) dX6_whatIsOn_4 ?_
    show G Γ _ _ _ 7 _ (.int _ :: _)
    refine z_icmp_ge (pc := 7) (tgt := 35) cx (by omega) (by decide) dX6_whatIsOn_7 (fun c_7 => ?_) (fun c_7 => ?_)
    · skip
      refine z_al_3_0 (pc := 35) cx dX6_whatIsOn_35 ?_
      refine g_getf (pc := 36) cx fl_X6_34 hc.x rfl dX6_whatIsOn_36 ?_
      refine z_il_3_1 (pc := 39) cx dX6_whatIsOn_39 ?_
      refine c_pts (pc := 40) cx hc dX6_whatIsOn_40 (by omega) ?_
      refine g_getf (pc := 41) cx fl_X6_239 (hc.pt (by omega)) rfl dX6_whatIsOn_41 ?_
      refine z_if_le (pc := 44) (tgt := 51) cx (by omega) (by decide) dX6_whatIsOn_44 (fun c_44 => ?_) (fun c_44 => ?_)
      · skip
        refine z_iconst (pc := 51) cx dX6_whatIsOn_51 ?_
        exact z_ret (pc := 52) cx rx (by decide) (by decide) dX6_whatIsOn_52 ⟨by
          rw [wio, fstN_none (fun k q => hno k (by omega)), if_neg (by decide)]
          first
          | rw [if_pos (by omega)]
          | rw [if_neg (by omega)], rfl⟩
      · skip
        refine z_iconst (pc := 47) cx dX6_whatIsOn_47 ?_
        refine g_goto (pc := 48) (tgt := 52) cx (by decide) dX6_whatIsOn_48 ?_
        exact z_ret (pc := 52) cx rx (by decide) (by decide) dX6_whatIsOn_52 ⟨by
          rw [wio, fstN_none (fun k q => hno k (by omega)), if_neg (by decide)]
          first
          | rw [if_pos (by omega)]
          | rw [if_neg (by omega)], rfl⟩
    · skip
      refine z_al_3_0 (pc := 10) cx dX6_whatIsOn_10 ?_
      refine g_getf (pc := 11) cx fl_X6_28 hc.x rfl dX6_whatIsOn_11 ?_
      refine z_il_3_2 (pc := 14) cx dX6_whatIsOn_14 ?_
      refine c_tks (pc := 15) cx hc dX6_whatIsOn_15 (by omega) ?_
      refine z_il_3_1 (pc := 16) cx dX6_whatIsOn_16 ?_
      refine z_al_3_0 (pc := 17) cx dX6_whatIsOn_17 ?_
      refine g_getf (pc := 18) cx fl_X6_134 hc.x rfl dX6_whatIsOn_18 ?_
      obtain ⟨kk1, kk2, ai, hR, hp⟩ := hk j (by omega)
      refine s_callV (pc := 21) cx lk_X6_262 (c_X5_hasFrameOn hc (by omega) hR hp kk2 (by omega) ht0 kk1) (hc.tk (by omega)) rfl gy_X5_hasFrameOn ⟨⟨by decide, by decide⟩, by decide, by decide⟩ ⟨rfl, rfl⟩ rfl rfl (Nat.le_of_ble_eq_true rfl) dX6_whatIsOn_21 ?_
      show G Γ _ _ _ 24 _ (.int _ :: _)
      refine z_if_eq (pc := 24) (tgt := 29) cx (by have := bz_r (hfF C j (Q j) (w : Int) (C 0 9)); omega) (by decide) dX6_whatIsOn_24 (fun c_24 => ?_) (fun c_24 => ?_)
      · skip
        refine z_ii_3_2 (pc := 29) cx dX6_whatIsOn_29 ?_
        refine g_goto (pc := 32) (tgt := 2) cx (by decide) dX6_whatIsOn_32 ?_
        exact ih (z - 1) (by omega) (j + 1) (by omega) (fun k q => (Nat.lt_succ_iff_lt_or_eq.mp q).elim (hno k) (fun q => by rw [q]; exact bz_0.mp c_24))
      · skip
        refine z_il_3_2 (pc := 27) cx dX6_whatIsOn_27 ?_
        exact z_ret (pc := 28) cx rx (by decide) (by decide) dX6_whatIsOn_28 ⟨by rw [wio, fstN_hit hno (bz_n0.mp c_24) (by omega), if_pos (by omega)], rfl⟩
  exact J2 n.toNat 0 (by omega) (fun k q => absurd q (Nat.not_lt_zero _))

set_option maxRecDepth 100000 in
set_option maxHeartbeats 4000000 in
theorem c_X6_link {lc : Launch} {dA : Nat → ClassId} {cd : Nat → Nat} {σ0 : hS} {C : mS} {R : cR} (hst : lc.stackTraces = false) (hc : cat dA cd σ0 C R) {n : Int} {Q : Nat → mS} (hs : scO dA cd σ0 (R 0 6) n Q) (ht0 : 0 ≤ C 0 9 ∧ C 0 9 ≤ 1000000) (hk : tkH dA cd σ0 C R n.toNat Q) (hb3 : ∀ l, l < 6 → 0 ≤ C (24 + l) 3 ∧ C (24 + l) 3 ≤ 8) (hb0 : ∀ l, l < 6 → C (24 + l) 0 = 0 ∨ C (24 + l) 0 = 1) {w u : Int} (hw : -2147483648 ≤ w ∧ w ≤ 2147483647) (hu : -2147483648 ≤ u ∧ u ≤ 2147483647) : gM lc dA yX6_link (.code yX6_link cX6_link 4 (some .int)) { frames := 7, cells := 2, slots := 12, locals := 116 } σ0 [.ref (cd 0), .int (iI w), .int (iI u)] (cQ dA cd σ0 (thL w u) (some (.int (iI (liC C n Q w u)))) (C) (R)) (cX3 σ0 (thL w u) E_112 E_44 E_70) := by
  refine gM_body (by decide +kernel) (by simp [Value.category]) (Nat.le_of_ble_eq_true rfl) (fun Γ hdA cx rx nx => ?_)
  subst hdA
  have cx : CX lc Γ cX6_link RX6 4 { frames := 7, cells := 2, slots := 12, locals := 116 } := cx
  show G Γ σ0 0 0 0 [some (.ref (cd 0)), some (.int (iI w)), some (.int (iI u)), none] []
  have hF : cFr cd σ0 σ0 := cFr.rf
  refine z_il_4_1 (pc := 0) cx dX6_link_0 ?_
  refine g_callS (pc := 1) cx lk_X6_40 (c_X6_requireLink hst hw) gy_X6_requireLink ⟨⟨by decide, by decide⟩, by decide, by decide⟩ rfl (Nat.le_of_ble_eq_true rfl) rfl dX6_link_1 (fun E σ9 hX => ?_) (fun v9 σ9 hX => ?_)
  · obtain ⟨rfl, hbad, rfl⟩ := hX
    exact gx_out cx rx nx (by decide) (by decide) (⟨Or.inl ⟨rfl, (by
  unfold thL
  (repeat' split) <;> omega)⟩, rfl⟩)
  obtain ⟨rfl, hgood1, rfl⟩ := hX
  show G Γ _ _ _ 4 _ _
  obtain ⟨w1, rfl⟩ : ∃ w1 : Nat, w = (w1 : Int) := ⟨w.toNat, by omega⟩
  have hb0w := hb0 w1 (by omega)
  refine z_al_4_0 (pc := 4) cx dX6_link_4 ?_
  refine g_getf (pc := 5) cx fl_X6_34 hc.x rfl dX6_link_5 ?_
  refine z_il_4_1 (pc := 8) cx dX6_link_8 ?_
  refine c_pts (pc := 9) cx hc dX6_link_9 (by omega) ?_
  refine z_as_4_3 (pc := 10) cx dX6_link_10 ?_
  refine z_il_4_2 (pc := 11) cx dX6_link_11 ?_
  rcases (show u = 0 ∨ u = 1 ∨ u = 2 ∨ u = 3 ∨ (u < 0 ∨ 3 < u) by omega) with rfl | rfl | rfl | rfl | hu4
  · refine z_tswIn (pc := 12) (a := 0) (off := 32) (tgt := 44) cx dX6_link_12 (by decide) (by decide) rfl (by decide) ?_
    refine z_al_4_3 (pc := 44) cx dX6_link_44 ?_
    refine g_getf (pc := 45) cx fl_X6_160 (hc.pt (by omega)) rfl dX6_link_45 ?_
    exact z_ret (pc := 48) cx rx (by decide) (by decide) dX6_link_48 ⟨(by
      unfold thL
      (repeat' split) <;> omega), (by unfold liC; rw [Int.toNat_natCast]; rfl), hc, hF⟩
  · refine z_tswIn (pc := 12) (a := 1) (off := 37) (tgt := 49) cx dX6_link_12 (by decide) (by decide) rfl (by decide) ?_
    refine z_al_4_3 (pc := 49) cx dX6_link_49 ?_
    refine g_getf (pc := 50) cx fl_X6_185 (hc.pt (by omega)) rfl dX6_link_50 ?_
    exact z_ret (pc := 53) cx rx (by decide) (by decide) dX6_link_53 ⟨(by
      unfold thL
      (repeat' split) <;> omega), (by unfold liC; rw [Int.toNat_natCast]; rfl), hc, hF⟩
  · refine z_tswIn (pc := 12) (a := 2) (off := 42) (tgt := 54) cx dX6_link_12 (by decide) (by decide) rfl (by decide) ?_
    refine z_al_4_0 (pc := 54) cx dX6_link_54 ?_
    refine z_il_4_1 (pc := 55) cx dX6_link_55 ?_
    refine s_callV (pc := 56) cx lk_X6_188 (c_X6_whatIsOn hc hs (by omega) ht0 hk hb3) hc.x rfl gy_X6_whatIsOn ⟨⟨by decide, by decide⟩, by decide, by decide⟩ ⟨rfl, rfl⟩ rfl rfl (Nat.le_of_ble_eq_true rfl) dX6_link_56 ?_
    show G Γ _ _ _ 59 _ (.int _ :: _)
    exact z_ret (pc := 59) cx rx (by decide) (by decide) dX6_link_59 ⟨(by
      unfold thL
      (repeat' split) <;> omega), (by unfold liC; rw [Int.toNat_natCast]; rfl), hc, hF⟩
  · refine z_tswIn (pc := 12) (a := 3) (off := 48) (tgt := 60) cx dX6_link_12 (by decide) (by decide) rfl (by decide) ?_
    refine z_al_4_3 (pc := 60) cx dX6_link_60 ?_
    refine g_getf (pc := 61) cx fl_X6_152 (hc.pt (by omega)) rfl dX6_link_61 ?_
    refine z_if_eq (pc := 64) (tgt := 71) cx (by omega) (by decide) dX6_link_64 (fun c_64 => ?_) (fun c_64 => ?_)
    · skip
      refine z_iconst (pc := 71) cx dX6_link_71 ?_
      exact z_ret (pc := 72) cx rx (by decide) (by decide) dX6_link_72 ⟨(by
        unfold thL
        (repeat' split) <;> omega), (by
        unfold liC
        rw [Int.toNat_natCast, if_neg (by decide), if_neg (by decide), if_neg (by decide)]
        first
        | rw [if_pos c_64]
        | rw [if_neg c_64]), hc, hF⟩
    · skip
      refine z_iconst (pc := 67) cx dX6_link_67 ?_
      refine g_goto (pc := 68) (tgt := 72) cx (by decide) dX6_link_68 ?_
      exact z_ret (pc := 72) cx rx (by decide) (by decide) dX6_link_72 ⟨(by
        unfold thL
        (repeat' split) <;> omega), (by
        unfold liC
        rw [Int.toNat_natCast, if_neg (by decide), if_neg (by decide), if_neg (by decide)]
        first
        | rw [if_pos c_64]
        | rw [if_neg c_64]), hc, hF⟩
  · refine z_tswOut (pc := 12) (tgt := 73) cx dX6_link_12 (by omega) (by omega) (by decide) ?_
    exact g_throwS (pc := 73) cx hst rx nx rfl (cls := E_112) (text := T_192) (by simp [gExc]) (by decide +kernel) thr_112 dX6_link_73 dX6_link_76 dX6_link_77 dX6_link_79 dX6_link_82 ⟨by decide, Nat.le_of_ble_eq_true rfl, by decide, by decide⟩ ⟨by decide, by decide⟩ (⟨Or.inl ⟨rfl, (by
  unfold thL
  (repeat' split) <;> omega)⟩, rfl⟩)

set_option maxRecDepth 100000 in
set_option maxHeartbeats 4000000 in
theorem c_X6_cut {lc : Launch} {dA : Nat → ClassId} {cd : Nat → Nat} {σ0 : hS} {C : mS} {R : cR} (hst : lc.stackTraces = false) (hc : cat dA cd σ0 C R) {n : Int} {Q : Nat → mS} (hs : scO dA cd σ0 (R 0 6) n Q) (ht0 : 0 ≤ C 0 9 ∧ C 0 9 ≤ 1000000) (hk : tkH dA cd σ0 C R n.toNat Q) (hb0 : ∀ l, l < 6 → C (24 + l) 0 = 0 ∨ C (24 + l) 0 = 1) {w on : Int} (hw : -2147483648 ≤ w ∧ w ≤ 2147483647) (ho : on = 0 ∨ on = 1) : gM lc dA yX6_cut (.code yX6_cut cX6_cut 4 (some .boolean)) { frames := 7, cells := 1, slots := 6, locals := 116 } σ0 [.ref (cd 0), .int (iI w), .int (iI on)] (cQ dA cd σ0 (thC w) (some (.int (iI (bz (decide (C (24 + w.toNat) 0 ≠ on)))))) (cuC C n Q w on) (R)) (cX3 σ0 (thC w) E_112 E_44 E_70) := by
  refine gM_body (by decide +kernel) (by simp [Value.category]) (Nat.le_of_ble_eq_true rfl) (fun Γ hdA cx rx nx => ?_)
  subst hdA
  have cx : CX lc Γ cX6_cut RX6 4 { frames := 7, cells := 1, slots := 6, locals := 116 } := cx
  show G Γ σ0 0 0 0 [some (.ref (cd 0)), some (.int (iI w)), some (.int (iI on)), none] []
  have hF : cFr cd σ0 σ0 := cFr.rf
  have hnr := hs.r
  refine z_il_4_1 (pc := 0) cx dX6_cut_0 ?_
  refine g_callS (pc := 1) cx lk_X6_40 (c_X6_requireLink hst hw) gy_X6_requireLink ⟨⟨by decide, by decide⟩, by decide, by decide⟩ rfl (Nat.le_of_ble_eq_true rfl) rfl dX6_cut_1 (fun E σ9 hX => ?_) (fun v9 σ9 hX => ?_)
  · obtain ⟨rfl, hbad, rfl⟩ := hX
    exact gx_out cx rx nx (by decide) (by decide) (⟨Or.inl ⟨rfl, (by
  unfold thC
  (repeat' split) <;> omega)⟩, rfl⟩)
  obtain ⟨rfl, hgood1, rfl⟩ := hX
  show G Γ _ _ _ 4 _ _
  obtain ⟨w1, rfl⟩ : ∃ w1 : Nat, w = (w1 : Int) := ⟨w.toNat, by omega⟩
  have hb0w := hb0 w1 (by omega)
  refine z_al_4_0 (pc := 4) cx dX6_cut_4 ?_
  refine g_getf (pc := 5) cx fl_X6_34 hc.x rfl dX6_cut_5 ?_
  refine z_il_4_1 (pc := 8) cx dX6_cut_8 ?_
  refine c_pts (pc := 9) cx hc dX6_cut_9 (by omega) ?_
  refine g_getf (pc := 10) cx fl_X6_152 (hc.pt (by omega)) rfl dX6_cut_10 ?_
  refine z_il_4_2 (pc := 13) cx dX6_cut_13 ?_
  refine z_icmp_eq (pc := 14) (tgt := 21) cx (by omega) (by decide) dX6_cut_14 (fun c_14 => ?_) (fun c_14 => ?_)
  · skip
    refine z_iconst (pc := 21) cx dX6_cut_21 ?_
    refine z_is_4_3 (pc := 22) cx dX6_cut_22 ?_
    refine z_al_4_0 (pc := 23) cx dX6_cut_23 ?_
    refine g_getf (pc := 24) cx fl_X6_34 hc.x rfl dX6_cut_24 ?_
    refine z_il_4_1 (pc := 27) cx dX6_cut_27 ?_
    refine c_pts (pc := 28) cx hc dX6_cut_28 (by omega) ?_
    refine z_il_4_2 (pc := 29) cx dX6_cut_29 ?_
    refine c_put (pc := 30) cx hc hF (by omega) fl_X6_152 rfl (cE_pt (by omega)) (show (0 : Nat) < 5 by decide) (nzb (ho)) (ptS0 (by omega)) mw_ne dX6_cut_30 ?_
    intro σ hc hF
    refine z_il_4_2 (pc := 33) cx dX6_cut_33 ?_
    refine z_if_eq (pc := 34) (tgt := 42) cx (by omega) (by decide) dX6_cut_34 (fun c_34 => ?_) (fun c_34 => ?_)
    · skip
      refine z_il_4_3 (pc := 42) cx dX6_cut_42 ?_
      exact (z_retb (pc := 43) (b := decide (C (24 + w1) 0 ≠ on)) cx rx (by decide) (by decide) dX6_cut_43 (bzd (by omega)) ⟨(by
        unfold thC
        (repeat' split) <;> omega), rfl, (by
        unfold cuC
        rw [Int.toNat_natCast]
        first
        | (rw [if_pos c_34]; exact hc)
        | (rw [if_neg c_34]; exact hc)), hF⟩)
    · skip
      refine z_al_4_0 (pc := 37) cx dX6_cut_37 ?_
      refine z_il_4_1 (pc := 38) cx dX6_cut_38 ?_
      refine c_callV (pc := 39) cx lk_X6_155 (c_X6_loseAllOn hc (hs.fr hF) (by omega) (by rw [mw_k (by omega)]; exact ht0) (hk.mono (by omega) (fun k q1 q2 => mw_ne k (by omega)) hF)) hc.x hF rfl gy_X6_loseAllOn ⟨⟨by decide, by decide⟩, by decide, by decide⟩ ⟨rfl, rfl⟩ rfl rfl (Nat.le_of_ble_eq_true rfl) dX6_cut_39 ?_
      intro σ hc hF
      show G Γ _ _ _ 42 _ _
      refine z_il_4_3 (pc := 42) cx dX6_cut_42 ?_
      exact (z_retb (pc := 43) (b := decide (C (24 + w1) 0 ≠ on)) cx rx (by decide) (by decide) dX6_cut_43 (bzd (by omega)) ⟨(by
        unfold thC
        (repeat' split) <;> omega), rfl, (by
        unfold cuC
        rw [Int.toNat_natCast]
        first
        | (rw [if_pos c_34]; exact hc)
        | (rw [if_neg c_34]; exact hc)), hF⟩)
  · skip
    refine z_iconst (pc := 17) cx dX6_cut_17 ?_
    refine g_goto (pc := 18) (tgt := 22) cx (by decide) dX6_cut_18 ?_
    refine z_is_4_3 (pc := 22) cx dX6_cut_22 ?_
    refine z_al_4_0 (pc := 23) cx dX6_cut_23 ?_
    refine g_getf (pc := 24) cx fl_X6_34 hc.x rfl dX6_cut_24 ?_
    refine z_il_4_1 (pc := 27) cx dX6_cut_27 ?_
    refine c_pts (pc := 28) cx hc dX6_cut_28 (by omega) ?_
    refine z_il_4_2 (pc := 29) cx dX6_cut_29 ?_
    refine c_put (pc := 30) cx hc hF (by omega) fl_X6_152 rfl (cE_pt (by omega)) (show (0 : Nat) < 5 by decide) (nzb (ho)) (ptS0 (by omega)) mw_ne dX6_cut_30 ?_
    intro σ hc hF
    refine z_il_4_2 (pc := 33) cx dX6_cut_33 ?_
    refine z_if_eq (pc := 34) (tgt := 42) cx (by omega) (by decide) dX6_cut_34 (fun c_34 => ?_) (fun c_34 => ?_)
    · skip
      refine z_il_4_3 (pc := 42) cx dX6_cut_42 ?_
      exact (z_retb (pc := 43) (b := decide (C (24 + w1) 0 ≠ on)) cx rx (by decide) (by decide) dX6_cut_43 (bzd (by omega)) ⟨(by
        unfold thC
        (repeat' split) <;> omega), rfl, (by
        unfold cuC
        rw [Int.toNat_natCast]
        first
        | (rw [if_pos c_34]; exact hc)
        | (rw [if_neg c_34]; exact hc)), hF⟩)
    · skip
      refine z_al_4_0 (pc := 37) cx dX6_cut_37 ?_
      refine z_il_4_1 (pc := 38) cx dX6_cut_38 ?_
      refine c_callV (pc := 39) cx lk_X6_155 (c_X6_loseAllOn hc (hs.fr hF) (by omega) (by rw [mw_k (by omega)]; exact ht0) (hk.mono (by omega) (fun k q1 q2 => mw_ne k (by omega)) hF)) hc.x hF rfl gy_X6_loseAllOn ⟨⟨by decide, by decide⟩, by decide, by decide⟩ ⟨rfl, rfl⟩ rfl rfl (Nat.le_of_ble_eq_true rfl) dX6_cut_39 ?_
      intro σ hc hF
      show G Γ _ _ _ 42 _ _
      refine z_il_4_3 (pc := 42) cx dX6_cut_42 ?_
      exact (z_retb (pc := 43) (b := decide (C (24 + w1) 0 ≠ on)) cx rx (by decide) (by decide) dX6_cut_43 (bzd (by omega)) ⟨(by
        unfold thC
        (repeat' split) <;> omega), rfl, (by
        unfold cuC
        rw [Int.toNat_natCast]
        first
        | (rw [if_pos c_34]; exact hc)
        | (rw [if_neg c_34]; exact hc)), hF⟩)

set_option maxRecDepth 100000 in
set_option maxHeartbeats 4000000 in
theorem c_X6_isTimeToChange {lc : Launch} {dA : Nat → ClassId} {cd : Nat → Nat} {σ0 : hS} {C : mS} {R : cR} (hc : cat dA cd σ0 C R) {n : Int} {Q : Nat → mS} (hs : scO dA cd σ0 (R 0 6) n Q) (ht0 : 0 ≤ C 0 9 ∧ C 0 9 ≤ 1000000) (hb3 : ∀ l, l < 6 → 0 ≤ C (24 + l) 3 ∧ C (24 + l) 3 ≤ 8) (hk4 : ∀ i, i < n.toNat → 0 ≤ C (13 + i) 4 ∧ C (13 + i) 4 ≤ 8) : gM lc dA yX6_isTimeToChange (.code yX6_isTimeToChange cX6_isTimeToChange 3 (some .boolean)) { frames := 1, cells := 0, slots := 0, locals := 20 } σ0 [.ref (cd 0)] (sP σ0 (some (.int (iI (bz (itc C n)))))) nX := by
  refine gM_body (by decide +kernel) (by simp [Value.category]) (Nat.le_of_ble_eq_true rfl) (fun Γ hdA cx rx nx => ?_)
  subst hdA
  have cx : CX lc Γ cX6_isTimeToChange RX6 3 { frames := 1, cells := 0, slots := 0, locals := 20 } := cx
  show G Γ σ0 0 0 0 [some (.ref (cd 0)), none, none] []
  have hF : cFr cd σ0 σ0 := cFr.rf
  have htl : tlN n = (n.toNat : Int) := tlN_n
  have hnr := hs.r
  have hm : iI (C 0 9) &&& iI 31 = iI (C 0 9 % 32) := iI_mask 5 (by decide) (by omega)
  refine z_al_3_0 (pc := 0) cx dX6_isTimeToChange_0 ?_
  refine g_getf (pc := 1) cx fl_X6_134 hc.x rfl dX6_isTimeToChange_1 ?_
  refine z_bipush (pc := 4) cx rfl dX6_isTimeToChange_4 ?_
  refine g_iand (pc := 6) cx dX6_isTimeToChange_6 ?_
  rw [hm]
  refine z_if_ne (pc := 7) (tgt := 14) cx (by omega) (by decide) dX6_isTimeToChange_7 (fun c_7 => ?_) (fun c_7 => ?_)
  · skip
    refine z_iconst (pc := 14) cx dX6_isTimeToChange_14 ?_
    refine z_is_3_1 (pc := 15) cx dX6_isTimeToChange_15 ?_
    refine z_iconst (pc := 16) cx dX6_isTimeToChange_16 ?_
    refine z_is_3_2 (pc := 17) cx dX6_isTimeToChange_17 ?_
    have J18 : ∀ (z j : Nat), j + z = n.toNat → G Γ σ0 0 0 18 [some (.ref (cd 0)), some (.int (iI (bz (decide (C 0 9 % 32 = 0) && itcT C j)))), some (.int (iI ((j : Int))))] [] := by
      intro z
      induction z using Nat.strongRecOn with
      | _ z ih =>
      intro j hjz
      have hbr := bz_r (decide (C 0 9 % 32 = 0) && itcT C j)
      refine z_il_3_2 (pc := 18) cx dX6_isTimeToChange_18 ?_
      refine z_al_3_0 (pc := 19) cx dX6_isTimeToChange_19 ?_
      refine s_callV (pc := 20) cx lk_X6_213 (c_X6_talking hc hs) hc.x rfl gy_X6_talking ⟨⟨by decide, by decide⟩, by decide, by decide⟩ ⟨rfl, rfl⟩ rfl rfl (Nat.le_of_ble_eq_true rfl) dX6_isTimeToChange_20 ?_
      show G Γ _ _ _ 23 _ (.int _ :: _)
      refine z_icmp_ge (pc := 23) (tgt := 54) cx (by omega) (by decide) dX6_isTimeToChange_23 (fun c_23 => ?_) (fun c_23 => ?_)
      · obtain rfl : j = n.toNat := by omega
        refine z_iconst (pc := 54) cx dX6_isTimeToChange_54 ?_
        refine z_is_3_2 (pc := 55) cx dX6_isTimeToChange_55 ?_
        have J56 : ∀ (z j : Nat), j + z = 6 → G Γ σ0 0 0 56 [some (.ref (cd 0)), some (.int (iI (bz (decide (C 0 9 % 32 = 0) && itcT C n.toNat && itcP C j)))), some (.int (iI ((j : Int))))] [] := by
          intro z
          induction z using Nat.strongRecOn with
          | _ z ih =>
          intro j hjz
          have hbr := bz_r (decide (C 0 9 % 32 = 0) && itcT C n.toNat && itcP C j)
          refine z_il_3_2 (pc := 56) cx dX6_isTimeToChange_56 ?_
          refine z_bipush (pc := 57) cx rfl dX6_isTimeToChange_57 ?_
          refine z_icmp_ge (pc := 59) (tgt := 90) cx (by omega) (by decide) dX6_isTimeToChange_59 (fun c_59 => ?_) (fun c_59 => ?_)
          · obtain rfl : j = 6 := by omega
            refine z_il_3_1 (pc := 90) cx dX6_isTimeToChange_90 ?_
            exact (z_retb (pc := 91) (b := itc C n) cx rx (by decide) (by decide) dX6_isTimeToChange_91 rfl ⟨rfl, rfl⟩)
          · skip
            refine z_il_3_1 (pc := 62) cx dX6_isTimeToChange_62 ?_
            refine z_if_eq (pc := 63) (tgt := 82) cx (by omega) (by decide) dX6_isTimeToChange_63 (fun c_63 => ?_) (fun c_63 => ?_)
            · skip
              refine z_iconst (pc := 82) cx dX6_isTimeToChange_82 ?_
              refine z_is_3_1 (pc := 83) cx dX6_isTimeToChange_83 ?_
              refine z_ii_3_2 (pc := 84) cx dX6_isTimeToChange_84 ?_
              refine g_goto (pc := 87) (tgt := 56) cx (by decide) dX6_isTimeToChange_87 ?_
              first
              | exact g_l (ih (z - 1) (by omega) (j + 1) (by omega)) (by rw [show (decide (C 0 9 % 32 = 0) && itcT C n.toNat && itcP C (j + 1)) = ((decide (C 0 9 % 32 = 0) && itcT C n.toNat && itcP C j) && decide (C (24 + j) 3 = 0)) from (Bool.and_assoc _ _ _).symm, ← bz_and (v := 1) (by omega)]; rfl)
              | exact g_l (ih (z - 1) (by omega) (j + 1) (by omega)) (by rw [show (decide (C 0 9 % 32 = 0) && itcT C n.toNat && itcP C (j + 1)) = ((decide (C 0 9 % 32 = 0) && itcT C n.toNat && itcP C j) && decide (C (24 + j) 3 = 0)) from (Bool.and_assoc _ _ _).symm, ← bz_and (v := 0) (by omega)]; rfl)
            · skip
              refine z_al_3_0 (pc := 66) cx dX6_isTimeToChange_66 ?_
              refine g_getf (pc := 67) cx fl_X6_34 hc.x rfl dX6_isTimeToChange_67 ?_
              refine z_il_3_2 (pc := 70) cx dX6_isTimeToChange_70 ?_
              refine c_pts (pc := 71) cx hc dX6_isTimeToChange_71 (by omega) ?_
              refine g_getf (pc := 72) cx fl_X6_239 (hc.pt (by omega)) rfl dX6_isTimeToChange_72 ?_
              have hb3j := hb3 j (by omega)
              refine z_if_ne (pc := 75) (tgt := 82) cx (by omega) (by decide) dX6_isTimeToChange_75 (fun c_75 => ?_) (fun c_75 => ?_)
              · skip
                refine z_iconst (pc := 82) cx dX6_isTimeToChange_82 ?_
                refine z_is_3_1 (pc := 83) cx dX6_isTimeToChange_83 ?_
                refine z_ii_3_2 (pc := 84) cx dX6_isTimeToChange_84 ?_
                refine g_goto (pc := 87) (tgt := 56) cx (by decide) dX6_isTimeToChange_87 ?_
                first
                | exact g_l (ih (z - 1) (by omega) (j + 1) (by omega)) (by rw [show (decide (C 0 9 % 32 = 0) && itcT C n.toNat && itcP C (j + 1)) = ((decide (C 0 9 % 32 = 0) && itcT C n.toNat && itcP C j) && decide (C (24 + j) 3 = 0)) from (Bool.and_assoc _ _ _).symm, ← bz_and (v := 1) (by omega)]; rfl)
                | exact g_l (ih (z - 1) (by omega) (j + 1) (by omega)) (by rw [show (decide (C 0 9 % 32 = 0) && itcT C n.toNat && itcP C (j + 1)) = ((decide (C 0 9 % 32 = 0) && itcT C n.toNat && itcP C j) && decide (C (24 + j) 3 = 0)) from (Bool.and_assoc _ _ _).symm, ← bz_and (v := 0) (by omega)]; rfl)
              · skip
                refine z_iconst (pc := 78) cx dX6_isTimeToChange_78 ?_
                refine g_goto (pc := 79) (tgt := 83) cx (by decide) dX6_isTimeToChange_79 ?_
                refine z_is_3_1 (pc := 83) cx dX6_isTimeToChange_83 ?_
                refine z_ii_3_2 (pc := 84) cx dX6_isTimeToChange_84 ?_
                refine g_goto (pc := 87) (tgt := 56) cx (by decide) dX6_isTimeToChange_87 ?_
                first
                | exact g_l (ih (z - 1) (by omega) (j + 1) (by omega)) (by rw [show (decide (C 0 9 % 32 = 0) && itcT C n.toNat && itcP C (j + 1)) = ((decide (C 0 9 % 32 = 0) && itcT C n.toNat && itcP C j) && decide (C (24 + j) 3 = 0)) from (Bool.and_assoc _ _ _).symm, ← bz_and (v := 1) (by omega)]; rfl)
                | exact g_l (ih (z - 1) (by omega) (j + 1) (by omega)) (by rw [show (decide (C 0 9 % 32 = 0) && itcT C n.toNat && itcP C (j + 1)) = ((decide (C 0 9 % 32 = 0) && itcT C n.toNat && itcP C j) && decide (C (24 + j) 3 = 0)) from (Bool.and_assoc _ _ _).symm, ← bz_and (v := 0) (by omega)]; rfl)
        exact g_l (J56 6 0 rfl) (by rw [show (decide (C 0 9 % 32 = 0) && itcT C n.toNat && itcP C 0) = (decide (C 0 9 % 32 = 0) && itcT C n.toNat) from Bool.and_true _]; rfl)
      · skip
        refine z_il_3_1 (pc := 26) cx dX6_isTimeToChange_26 ?_
        refine z_if_eq (pc := 27) (tgt := 46) cx (by omega) (by decide) dX6_isTimeToChange_27 (fun c_27 => ?_) (fun c_27 => ?_)
        · skip
          refine z_iconst (pc := 46) cx dX6_isTimeToChange_46 ?_
          refine z_is_3_1 (pc := 47) cx dX6_isTimeToChange_47 ?_
          refine z_ii_3_2 (pc := 48) cx dX6_isTimeToChange_48 ?_
          refine g_goto (pc := 51) (tgt := 18) cx (by decide) dX6_isTimeToChange_51 ?_
          first
          | exact g_l (ih (z - 1) (by omega) (j + 1) (by omega)) (by rw [show (decide (C 0 9 % 32 = 0) && itcT C (j + 1)) = ((decide (C 0 9 % 32 = 0) && itcT C j) && decide (C (13 + j) 4 = 0)) from (Bool.and_assoc _ _ _).symm, ← bz_and (v := 1) (by omega)]; rfl)
          | exact g_l (ih (z - 1) (by omega) (j + 1) (by omega)) (by rw [show (decide (C 0 9 % 32 = 0) && itcT C (j + 1)) = ((decide (C 0 9 % 32 = 0) && itcT C j) && decide (C (13 + j) 4 = 0)) from (Bool.and_assoc _ _ _).symm, ← bz_and (v := 0) (by omega)]; rfl)
        · skip
          refine z_al_3_0 (pc := 30) cx dX6_isTimeToChange_30 ?_
          refine g_getf (pc := 31) cx fl_X6_28 hc.x rfl dX6_isTimeToChange_31 ?_
          refine z_il_3_2 (pc := 34) cx dX6_isTimeToChange_34 ?_
          refine c_tks (pc := 35) cx hc dX6_isTimeToChange_35 (by omega) ?_
          refine g_getf (pc := 36) cx fl_X6_168 (hc.tk (by omega)) rfl dX6_isTimeToChange_36 ?_
          have hk4j := hk4 j (by omega)
          refine z_if_ne (pc := 39) (tgt := 46) cx (by omega) (by decide) dX6_isTimeToChange_39 (fun c_39 => ?_) (fun c_39 => ?_)
          · skip
            refine z_iconst (pc := 46) cx dX6_isTimeToChange_46 ?_
            refine z_is_3_1 (pc := 47) cx dX6_isTimeToChange_47 ?_
            refine z_ii_3_2 (pc := 48) cx dX6_isTimeToChange_48 ?_
            refine g_goto (pc := 51) (tgt := 18) cx (by decide) dX6_isTimeToChange_51 ?_
            first
            | exact g_l (ih (z - 1) (by omega) (j + 1) (by omega)) (by rw [show (decide (C 0 9 % 32 = 0) && itcT C (j + 1)) = ((decide (C 0 9 % 32 = 0) && itcT C j) && decide (C (13 + j) 4 = 0)) from (Bool.and_assoc _ _ _).symm, ← bz_and (v := 1) (by omega)]; rfl)
            | exact g_l (ih (z - 1) (by omega) (j + 1) (by omega)) (by rw [show (decide (C 0 9 % 32 = 0) && itcT C (j + 1)) = ((decide (C 0 9 % 32 = 0) && itcT C j) && decide (C (13 + j) 4 = 0)) from (Bool.and_assoc _ _ _).symm, ← bz_and (v := 0) (by omega)]; rfl)
          · skip
            refine z_iconst (pc := 42) cx dX6_isTimeToChange_42 ?_
            refine g_goto (pc := 43) (tgt := 47) cx (by decide) dX6_isTimeToChange_43 ?_
            refine z_is_3_1 (pc := 47) cx dX6_isTimeToChange_47 ?_
            refine z_ii_3_2 (pc := 48) cx dX6_isTimeToChange_48 ?_
            refine g_goto (pc := 51) (tgt := 18) cx (by decide) dX6_isTimeToChange_51 ?_
            first
            | exact g_l (ih (z - 1) (by omega) (j + 1) (by omega)) (by rw [show (decide (C 0 9 % 32 = 0) && itcT C (j + 1)) = ((decide (C 0 9 % 32 = 0) && itcT C j) && decide (C (13 + j) 4 = 0)) from (Bool.and_assoc _ _ _).symm, ← bz_and (v := 1) (by omega)]; rfl)
            | exact g_l (ih (z - 1) (by omega) (j + 1) (by omega)) (by rw [show (decide (C 0 9 % 32 = 0) && itcT C (j + 1)) = ((decide (C 0 9 % 32 = 0) && itcT C j) && decide (C (13 + j) 4 = 0)) from (Bool.and_assoc _ _ _).symm, ← bz_and (v := 0) (by omega)]; rfl)
    first
    | exact g_l (J18 n.toNat 0 (by omega)) (by rw [decide_eq_true c_7]; rfl)
    | exact g_l (J18 n.toNat 0 (by omega)) (by rw [decide_eq_false c_7]; rfl)
  · skip
    refine z_iconst (pc := 10) cx dX6_isTimeToChange_10 ?_
    refine g_goto (pc := 11) (tgt := 15) cx (by decide) dX6_isTimeToChange_11 ?_
    refine z_is_3_1 (pc := 15) cx dX6_isTimeToChange_15 ?_
    refine z_iconst (pc := 16) cx dX6_isTimeToChange_16 ?_
    refine z_is_3_2 (pc := 17) cx dX6_isTimeToChange_17 ?_
    have J18 : ∀ (z j : Nat), j + z = n.toNat → G Γ σ0 0 0 18 [some (.ref (cd 0)), some (.int (iI (bz (decide (C 0 9 % 32 = 0) && itcT C j)))), some (.int (iI ((j : Int))))] [] := by
      intro z
      induction z using Nat.strongRecOn with
      | _ z ih =>
      intro j hjz
      have hbr := bz_r (decide (C 0 9 % 32 = 0) && itcT C j)
      refine z_il_3_2 (pc := 18) cx dX6_isTimeToChange_18 ?_
      refine z_al_3_0 (pc := 19) cx dX6_isTimeToChange_19 ?_
      refine s_callV (pc := 20) cx lk_X6_213 (c_X6_talking hc hs) hc.x rfl gy_X6_talking ⟨⟨by decide, by decide⟩, by decide, by decide⟩ ⟨rfl, rfl⟩ rfl rfl (Nat.le_of_ble_eq_true rfl) dX6_isTimeToChange_20 ?_
      show G Γ _ _ _ 23 _ (.int _ :: _)
      refine z_icmp_ge (pc := 23) (tgt := 54) cx (by omega) (by decide) dX6_isTimeToChange_23 (fun c_23 => ?_) (fun c_23 => ?_)
      · obtain rfl : j = n.toNat := by omega
        refine z_iconst (pc := 54) cx dX6_isTimeToChange_54 ?_
        refine z_is_3_2 (pc := 55) cx dX6_isTimeToChange_55 ?_
        have J56 : ∀ (z j : Nat), j + z = 6 → G Γ σ0 0 0 56 [some (.ref (cd 0)), some (.int (iI (bz (decide (C 0 9 % 32 = 0) && itcT C n.toNat && itcP C j)))), some (.int (iI ((j : Int))))] [] := by
          intro z
          induction z using Nat.strongRecOn with
          | _ z ih =>
          intro j hjz
          have hbr := bz_r (decide (C 0 9 % 32 = 0) && itcT C n.toNat && itcP C j)
          refine z_il_3_2 (pc := 56) cx dX6_isTimeToChange_56 ?_
          refine z_bipush (pc := 57) cx rfl dX6_isTimeToChange_57 ?_
          refine z_icmp_ge (pc := 59) (tgt := 90) cx (by omega) (by decide) dX6_isTimeToChange_59 (fun c_59 => ?_) (fun c_59 => ?_)
          · obtain rfl : j = 6 := by omega
            refine z_il_3_1 (pc := 90) cx dX6_isTimeToChange_90 ?_
            exact (z_retb (pc := 91) (b := itc C n) cx rx (by decide) (by decide) dX6_isTimeToChange_91 rfl ⟨rfl, rfl⟩)
          · skip
            refine z_il_3_1 (pc := 62) cx dX6_isTimeToChange_62 ?_
            refine z_if_eq (pc := 63) (tgt := 82) cx (by omega) (by decide) dX6_isTimeToChange_63 (fun c_63 => ?_) (fun c_63 => ?_)
            · skip
              refine z_iconst (pc := 82) cx dX6_isTimeToChange_82 ?_
              refine z_is_3_1 (pc := 83) cx dX6_isTimeToChange_83 ?_
              refine z_ii_3_2 (pc := 84) cx dX6_isTimeToChange_84 ?_
              refine g_goto (pc := 87) (tgt := 56) cx (by decide) dX6_isTimeToChange_87 ?_
              first
              | exact g_l (ih (z - 1) (by omega) (j + 1) (by omega)) (by rw [show (decide (C 0 9 % 32 = 0) && itcT C n.toNat && itcP C (j + 1)) = ((decide (C 0 9 % 32 = 0) && itcT C n.toNat && itcP C j) && decide (C (24 + j) 3 = 0)) from (Bool.and_assoc _ _ _).symm, ← bz_and (v := 1) (by omega)]; rfl)
              | exact g_l (ih (z - 1) (by omega) (j + 1) (by omega)) (by rw [show (decide (C 0 9 % 32 = 0) && itcT C n.toNat && itcP C (j + 1)) = ((decide (C 0 9 % 32 = 0) && itcT C n.toNat && itcP C j) && decide (C (24 + j) 3 = 0)) from (Bool.and_assoc _ _ _).symm, ← bz_and (v := 0) (by omega)]; rfl)
            · skip
              refine z_al_3_0 (pc := 66) cx dX6_isTimeToChange_66 ?_
              refine g_getf (pc := 67) cx fl_X6_34 hc.x rfl dX6_isTimeToChange_67 ?_
              refine z_il_3_2 (pc := 70) cx dX6_isTimeToChange_70 ?_
              refine c_pts (pc := 71) cx hc dX6_isTimeToChange_71 (by omega) ?_
              refine g_getf (pc := 72) cx fl_X6_239 (hc.pt (by omega)) rfl dX6_isTimeToChange_72 ?_
              have hb3j := hb3 j (by omega)
              refine z_if_ne (pc := 75) (tgt := 82) cx (by omega) (by decide) dX6_isTimeToChange_75 (fun c_75 => ?_) (fun c_75 => ?_)
              · skip
                refine z_iconst (pc := 82) cx dX6_isTimeToChange_82 ?_
                refine z_is_3_1 (pc := 83) cx dX6_isTimeToChange_83 ?_
                refine z_ii_3_2 (pc := 84) cx dX6_isTimeToChange_84 ?_
                refine g_goto (pc := 87) (tgt := 56) cx (by decide) dX6_isTimeToChange_87 ?_
                first
                | exact g_l (ih (z - 1) (by omega) (j + 1) (by omega)) (by rw [show (decide (C 0 9 % 32 = 0) && itcT C n.toNat && itcP C (j + 1)) = ((decide (C 0 9 % 32 = 0) && itcT C n.toNat && itcP C j) && decide (C (24 + j) 3 = 0)) from (Bool.and_assoc _ _ _).symm, ← bz_and (v := 1) (by omega)]; rfl)
                | exact g_l (ih (z - 1) (by omega) (j + 1) (by omega)) (by rw [show (decide (C 0 9 % 32 = 0) && itcT C n.toNat && itcP C (j + 1)) = ((decide (C 0 9 % 32 = 0) && itcT C n.toNat && itcP C j) && decide (C (24 + j) 3 = 0)) from (Bool.and_assoc _ _ _).symm, ← bz_and (v := 0) (by omega)]; rfl)
              · skip
                refine z_iconst (pc := 78) cx dX6_isTimeToChange_78 ?_
                refine g_goto (pc := 79) (tgt := 83) cx (by decide) dX6_isTimeToChange_79 ?_
                refine z_is_3_1 (pc := 83) cx dX6_isTimeToChange_83 ?_
                refine z_ii_3_2 (pc := 84) cx dX6_isTimeToChange_84 ?_
                refine g_goto (pc := 87) (tgt := 56) cx (by decide) dX6_isTimeToChange_87 ?_
                first
                | exact g_l (ih (z - 1) (by omega) (j + 1) (by omega)) (by rw [show (decide (C 0 9 % 32 = 0) && itcT C n.toNat && itcP C (j + 1)) = ((decide (C 0 9 % 32 = 0) && itcT C n.toNat && itcP C j) && decide (C (24 + j) 3 = 0)) from (Bool.and_assoc _ _ _).symm, ← bz_and (v := 1) (by omega)]; rfl)
                | exact g_l (ih (z - 1) (by omega) (j + 1) (by omega)) (by rw [show (decide (C 0 9 % 32 = 0) && itcT C n.toNat && itcP C (j + 1)) = ((decide (C 0 9 % 32 = 0) && itcT C n.toNat && itcP C j) && decide (C (24 + j) 3 = 0)) from (Bool.and_assoc _ _ _).symm, ← bz_and (v := 0) (by omega)]; rfl)
        exact g_l (J56 6 0 rfl) (by rw [show (decide (C 0 9 % 32 = 0) && itcT C n.toNat && itcP C 0) = (decide (C 0 9 % 32 = 0) && itcT C n.toNat) from Bool.and_true _]; rfl)
      · skip
        refine z_il_3_1 (pc := 26) cx dX6_isTimeToChange_26 ?_
        refine z_if_eq (pc := 27) (tgt := 46) cx (by omega) (by decide) dX6_isTimeToChange_27 (fun c_27 => ?_) (fun c_27 => ?_)
        · skip
          refine z_iconst (pc := 46) cx dX6_isTimeToChange_46 ?_
          refine z_is_3_1 (pc := 47) cx dX6_isTimeToChange_47 ?_
          refine z_ii_3_2 (pc := 48) cx dX6_isTimeToChange_48 ?_
          refine g_goto (pc := 51) (tgt := 18) cx (by decide) dX6_isTimeToChange_51 ?_
          first
          | exact g_l (ih (z - 1) (by omega) (j + 1) (by omega)) (by rw [show (decide (C 0 9 % 32 = 0) && itcT C (j + 1)) = ((decide (C 0 9 % 32 = 0) && itcT C j) && decide (C (13 + j) 4 = 0)) from (Bool.and_assoc _ _ _).symm, ← bz_and (v := 1) (by omega)]; rfl)
          | exact g_l (ih (z - 1) (by omega) (j + 1) (by omega)) (by rw [show (decide (C 0 9 % 32 = 0) && itcT C (j + 1)) = ((decide (C 0 9 % 32 = 0) && itcT C j) && decide (C (13 + j) 4 = 0)) from (Bool.and_assoc _ _ _).symm, ← bz_and (v := 0) (by omega)]; rfl)
        · skip
          refine z_al_3_0 (pc := 30) cx dX6_isTimeToChange_30 ?_
          refine g_getf (pc := 31) cx fl_X6_28 hc.x rfl dX6_isTimeToChange_31 ?_
          refine z_il_3_2 (pc := 34) cx dX6_isTimeToChange_34 ?_
          refine c_tks (pc := 35) cx hc dX6_isTimeToChange_35 (by omega) ?_
          refine g_getf (pc := 36) cx fl_X6_168 (hc.tk (by omega)) rfl dX6_isTimeToChange_36 ?_
          have hk4j := hk4 j (by omega)
          refine z_if_ne (pc := 39) (tgt := 46) cx (by omega) (by decide) dX6_isTimeToChange_39 (fun c_39 => ?_) (fun c_39 => ?_)
          · skip
            refine z_iconst (pc := 46) cx dX6_isTimeToChange_46 ?_
            refine z_is_3_1 (pc := 47) cx dX6_isTimeToChange_47 ?_
            refine z_ii_3_2 (pc := 48) cx dX6_isTimeToChange_48 ?_
            refine g_goto (pc := 51) (tgt := 18) cx (by decide) dX6_isTimeToChange_51 ?_
            first
            | exact g_l (ih (z - 1) (by omega) (j + 1) (by omega)) (by rw [show (decide (C 0 9 % 32 = 0) && itcT C (j + 1)) = ((decide (C 0 9 % 32 = 0) && itcT C j) && decide (C (13 + j) 4 = 0)) from (Bool.and_assoc _ _ _).symm, ← bz_and (v := 1) (by omega)]; rfl)
            | exact g_l (ih (z - 1) (by omega) (j + 1) (by omega)) (by rw [show (decide (C 0 9 % 32 = 0) && itcT C (j + 1)) = ((decide (C 0 9 % 32 = 0) && itcT C j) && decide (C (13 + j) 4 = 0)) from (Bool.and_assoc _ _ _).symm, ← bz_and (v := 0) (by omega)]; rfl)
          · skip
            refine z_iconst (pc := 42) cx dX6_isTimeToChange_42 ?_
            refine g_goto (pc := 43) (tgt := 47) cx (by decide) dX6_isTimeToChange_43 ?_
            refine z_is_3_1 (pc := 47) cx dX6_isTimeToChange_47 ?_
            refine z_ii_3_2 (pc := 48) cx dX6_isTimeToChange_48 ?_
            refine g_goto (pc := 51) (tgt := 18) cx (by decide) dX6_isTimeToChange_51 ?_
            first
            | exact g_l (ih (z - 1) (by omega) (j + 1) (by omega)) (by rw [show (decide (C 0 9 % 32 = 0) && itcT C (j + 1)) = ((decide (C 0 9 % 32 = 0) && itcT C j) && decide (C (13 + j) 4 = 0)) from (Bool.and_assoc _ _ _).symm, ← bz_and (v := 1) (by omega)]; rfl)
            | exact g_l (ih (z - 1) (by omega) (j + 1) (by omega)) (by rw [show (decide (C 0 9 % 32 = 0) && itcT C (j + 1)) = ((decide (C 0 9 % 32 = 0) && itcT C j) && decide (C (13 + j) 4 = 0)) from (Bool.and_assoc _ _ _).symm, ← bz_and (v := 0) (by omega)]; rfl)
    first
    | exact g_l (J18 n.toNat 0 (by omega)) (by rw [decide_eq_true c_7]; rfl)
    | exact g_l (J18 n.toNat 0 (by omega)) (by rw [decide_eq_false c_7]; rfl)

set_option maxRecDepth 100000 in
set_option maxHeartbeats 4000000 in
theorem c_X6_comeIntoForce {lc : Launch} {dA : Nat → ClassId} {cd : Nat → Nat} {σ0 : hS} {C : mS} {R : cR} (hc : cat dA cd σ0 C R) {a arr m : Nat} {A : Nat → Option Nat} {Q : Nat → mS} (hr : R 0 5 = some a) (hm5 : m ≤ 5) (s0 : pl cd σ0 a (.inr (2, [.ref arr]))) (s1 : pl cd σ0 arr (.inl (dA 2, m, .inr (.inr (.inr (.inr A)))))) (s2 : ∀ i, i < m → ∃ ai, A i = some ai ∧ isPS dA cd σ0 ai (Q i)) : gM lc dA yX6_comeIntoForce (.code yX6_comeIntoForce cX6_comeIntoForce 2 none) { frames := 1, cells := 0, slots := 0, locals := 21 } σ0 [.ref (cd 0)] (cP dA cd σ0 none (cfC C m) (cfR A m (rwr (rwr R 0 6 (R 0 5)) 0 5 none))) nX := by
  refine gM_body (by decide +kernel) (by simp [Value.category]) (Nat.le_of_ble_eq_true rfl) (fun Γ hdA cx rx nx => ?_)
  subst hdA
  have cx : CX lc Γ cX6_comeIntoForce RX6 2 { frames := 1, cells := 0, slots := 0, locals := 21 } := cx
  show G Γ σ0 0 0 0 [some (.ref (cd 0)), none] []
  have hF : cFr cd σ0 σ0 := cFr.rf
  have h06 : ∀ j, cfR A j (rwr (rwr R 0 6 (some a)) 0 5 none) 0 6 = some a := fun j => by rw [cfR_k (by omega), rwr_e (by decide), rwr_s]
  have hs6 : ∀ (j : Nat) (σ : hS), cFr cd σ0 σ → scO (gdA Γ) cd σ (cfR A j (rwr (rwr R 0 6 (some a)) 0 5 none) 0 6) (m : Int) Q := fun j σ hF => Or.inr ⟨a, h06 j, by omega, arr, A, s0.fr hF, by rw [Int.toNat_natCast]; exact s1.fr hF, fun i hi => by
    obtain ⟨ai, q1, q2⟩ := s2 i (by omega)
    exact ⟨ai, q1, q2.fr hF⟩⟩
  have htl : tlN (m : Int) = (m : Int) := by rw [tlN_n, Int.toNat_natCast]
  refine z_al_2_0 (pc := 0) cx dX6_comeIntoForce_0 ?_
  refine z_al_2_0 (pc := 1) cx dX6_comeIntoForce_1 ?_
  refine g_getf (pc := 2) (v := .ref a) cx fl_X6_126 hc.x (by show some (va_rf (R 0 5)) = _; rw [hr]; rfl) dX6_comeIntoForce_2 ?_
  refine c_putR (pc := 5) (r := some a) cx hc hF (by omega) fl_X6_198 rfl rfl (show (6 : Nat) < 10 by decide) ⟨rfl, rfl⟩ (xR6) rwr_ne dX6_comeIntoForce_5 ?_
  intro σ hc hF
  refine z_al_2_0 (pc := 8) cx dX6_comeIntoForce_8 ?_
  refine g_null (pc := 9) cx dX6_comeIntoForce_9 ?_
  refine c_putR (pc := 10) (r := none) cx hc hF (by omega) fl_X6_126 rfl rfl (show (5 : Nat) < 10 by decide) ⟨rfl, rfl⟩ (xR5) rwr_ne dX6_comeIntoForce_10 ?_
  intro σ hc hF
  refine z_iconst (pc := 13) cx dX6_comeIntoForce_13 ?_
  refine z_is_2_1 (pc := 14) cx dX6_comeIntoForce_14 ?_
  have J15 : ∀ (z j : Nat) (σ : hS), j + z = m → cat (gdA Γ) cd σ (cfC C j) (cfR A j (rwr (rwr R 0 6 (some a)) 0 5 none)) → cFr cd σ0 σ → G Γ σ 0 0 15 [some (.ref (cd 0)), some (.int (iI ((j : Int))))] [] := by
    intro z
    induction z using Nat.strongRecOn with
    | _ z ih =>
    intro j σ hjz hc hF
    refine z_il_2_1 (pc := 15) cx dX6_comeIntoForce_15 ?_
    refine z_al_2_0 (pc := 16) cx dX6_comeIntoForce_16 ?_
    refine s_callV (pc := 17) cx lk_X6_213 (c_X6_talking hc (hs6 j σ hF)) hc.x rfl gy_X6_talking ⟨⟨by decide, by decide⟩, by decide, by decide⟩ ⟨rfl, rfl⟩ rfl rfl (Nat.le_of_ble_eq_true rfl) dX6_comeIntoForce_17 ?_
    show G Γ _ _ _ 20 _ (.int _ :: _)
    refine z_icmp_ge (pc := 20) (tgt := 47) cx (by omega) (by decide) dX6_comeIntoForce_20 (fun c_20 => ?_) (fun c_20 => ?_)
    · obtain rfl : j = m := by omega
      rw [← hr] at hc
      exact g_return (pc := 47) cx rx (by decide) (by decide) dX6_comeIntoForce_47 ⟨rfl, hc, hF⟩
    · skip
      refine z_al_2_0 (pc := 23) cx dX6_comeIntoForce_23 ?_
      refine g_getf (pc := 24) cx fl_X6_28 hc.x rfl dX6_comeIntoForce_24 ?_
      refine z_il_2_1 (pc := 27) cx dX6_comeIntoForce_27 ?_
      refine c_tks (pc := 28) cx hc dX6_comeIntoForce_28 (by omega) ?_
      refine z_al_2_0 (pc := 29) cx dX6_comeIntoForce_29 ?_
      refine g_getf (pc := 30) (v := .ref a) cx fl_X6_198 hc.x (by show some (va_rf (cfR A j (rwr (rwr R 0 6 (some a)) 0 5 none) 0 6)) = _; rw [h06]; rfl) dX6_comeIntoForce_30 ?_
      refine g_getf (pc := 33) cx fl_X6_108 (s0.fr hF).1 rfl dX6_comeIntoForce_33 ?_
      refine z_il_2_1 (pc := 36) cx dX6_comeIntoForce_36 ?_
      obtain ⟨ai, hA, hpi⟩ := s2 j (by omega)
      refine g_aald2 (pc := 37) cx (s1.fr hF).1 (iI_in (by omega) (by omega)) dX6_comeIntoForce_37 ?_
      rw [iI_cl (by omega), Int.toNat_natCast, hA]
      show G Γ _ _ _ 38 _ (.ref ai :: _)
      refine c_callV (pc := 38) cx lk_X6_242 (c_X5_startAnew hc (by omega)) (hc.tk (by omega)) hF rfl gy_X5_startAnew ⟨⟨by decide, by decide⟩, by decide, by decide⟩ ⟨rfl, rfl⟩ rfl rfl (Nat.le_of_ble_eq_true rfl) dX6_comeIntoForce_38 ?_
      intro σ hc hF
      show G Γ _ _ _ 41 _ _
      refine z_ii_2_1 (pc := 41) cx dX6_comeIntoForce_41 ?_
      refine g_goto (pc := 44) (tgt := 15) cx (by decide) dX6_comeIntoForce_44 ?_
      rw [← hA] at hc
      exact ih (z - 1) (by omega) (j + 1) σ (by omega) hc hF
  exact J15 m 0 _ (by omega) hc hF

set_option maxRecDepth 100000 in
set_option maxHeartbeats 4000000 in
theorem c_X6_beginWaiting {lc : Launch} {dA : Nat → ClassId} {cd : Nat → Nat} {σ0 : hS} {C : mS} {R : cR} (hc : cat dA cd σ0 C R) {n : Int} {Q : Nat → mS} (hs : scO dA cd σ0 (R 0 6) n Q) {w : Nat} (hw6 : w < 6) (hp : PtX C w) (ht0 : 0 ≤ C 0 9 ∧ C 0 9 ≤ 1000000) (hq : ∀ i, i < n.toNat → PW (Q i)) : gM lc dA yX6_beginWaiting (.code yX6_beginWaiting cX6_beginWaiting 3 none) { frames := 4, cells := 0, slots := 0, locals := 92 } σ0 [.ref (cd 0), .int (iI (w : Int))] (cP dA cd σ0 none (bwF C n Q w) (R)) nX := by
  refine gM_body (by decide +kernel) (by simp [Value.category]) (Nat.le_of_ble_eq_true rfl) (fun Γ hdA cx rx nx => ?_)
  subst hdA
  have cx : CX lc Γ cX6_beginWaiting RX6 3 { frames := 4, cells := 0, slots := 0, locals := 92 } := cx
  show G Γ σ0 0 0 0 [some (.ref (cd 0)), some (.int (iI (w : Int))), none] []
  have hF : cFr cd σ0 σ0 := cFr.rf
  have hw1 : cbF C w = true → 0 < C (24 + w) 1 := fun q => by unfold cbF at q; simp only [Bool.and_eq_true, decide_eq_true_eq] at q; exact q.2
  have hp2 := hp.2
  refine z_al_3_0 (pc := 0) cx dX6_beginWaiting_0 ?_
  refine g_getf (pc := 1) cx fl_X6_34 hc.x rfl dX6_beginWaiting_1 ?_
  refine z_il_3_1 (pc := 4) cx dX6_beginWaiting_4 ?_
  refine c_pts (pc := 5) cx hc dX6_beginWaiting_5 (by omega) ?_
  refine z_as_3_2 (pc := 6) cx dX6_beginWaiting_6 ?_
  refine z_al_3_2 (pc := 7) cx dX6_beginWaiting_7 ?_
  refine s_callV (pc := 8) cx lk_X6_246 (c_X1_canBegin hc (by omega) hp.1) (hc.pt (by omega)) rfl gy_X1_canBegin ⟨⟨by decide, by decide⟩, by decide, by decide⟩ ⟨rfl, rfl⟩ rfl rfl (Nat.le_of_ble_eq_true rfl) dX6_beginWaiting_8 ?_
  show G Γ _ _ _ 11 _ (.int _ :: _)
  refine z_if_eq (pc := 11) (tgt := 46) cx (by have := bz_r (cbF C w); omega) (by decide) dX6_beginWaiting_11 (fun c_11 => ?_) (fun c_11 => ?_)
  · skip
    exact g_return (pc := 46) cx rx (by decide) (by decide) dX6_beginWaiting_46 ⟨rfl, (by
      unfold bwF
      first
      | (rw [if_neg (by rw [bz_0.mp c_11, Bool.false_and]; decide)]; exact hc)
      | (rw [if_pos (by rw [bz_n0.mp c_11, decide_eq_true (show n < 0 by omega)]; rfl)]; exact hc)
      | (rw [if_neg (by rw [bz_n0.mp c_11, decide_eq_false (show ¬ n < 0 by omega), bz_0.mp c_39]; decide)]; exact hc)
      | (rw [if_pos (by rw [bz_n0.mp c_11, bz_n0.mp c_39, Bool.or_true]; rfl)]; exact hc)), hF⟩
  · skip
    rcases hs with ⟨hr, hn⟩ | ⟨a, hr, hn, hsc⟩
    · skip
      have hp3 := hp2 (hw1 (bz_n0.mp c_11))
      refine z_al_3_0 (pc := 14) cx dX6_beginWaiting_14 ?_
      refine g_getf (pc := 15) (v := .null) cx fl_X6_198 hc.x (by show some (va_rf (R 0 6)) = _; rw [hr]; rfl) dX6_beginWaiting_15 ?_
      refine g_ifnullN (pc := 18) (tgt := 42) cx (by decide) dX6_beginWaiting_18 ?_
      refine z_al_3_2 (pc := 42) cx dX6_beginWaiting_42 ?_
      refine c_callV (pc := 43) cx lk_X6_255 (c_X1_beginFirst hc (by omega) hp.1 (hw1 (bz_n0.mp c_11))) (hc.pt (by omega)) hF rfl gy_X1_beginFirst ⟨⟨by decide, by decide⟩, by decide, by decide⟩ ⟨rfl, rfl⟩ rfl rfl (Nat.le_of_ble_eq_true rfl) dX6_beginWaiting_43 ?_
      intro σ hc hF
      show G Γ _ _ _ 46 _ _
      exact g_return (pc := 46) cx rx (by decide) (by decide) dX6_beginWaiting_46 ⟨rfl, (by
        unfold bwF
        first
        | (rw [if_neg (by rw [bz_0.mp c_11, Bool.false_and]; decide)]; exact hc)
        | (rw [if_pos (by rw [bz_n0.mp c_11, decide_eq_true (show n < 0 by omega)]; rfl)]; exact hc)
        | (rw [if_neg (by rw [bz_n0.mp c_11, decide_eq_false (show ¬ n < 0 by omega), bz_0.mp c_39]; decide)]; exact hc)
        | (rw [if_pos (by rw [bz_n0.mp c_11, bz_n0.mp c_39, Bool.or_true]; rfl)]; exact hc)), hF⟩
    · skip
      have hp3 := hp2 (hw1 (bz_n0.mp c_11))
      obtain ⟨arr, A, s0, s1, s2⟩ := id hsc
      refine z_al_3_0 (pc := 14) cx dX6_beginWaiting_14 ?_
      refine g_getf (pc := 15) (v := .ref a) cx fl_X6_198 hc.x (by show some (va_rf (R 0 6)) = _; rw [hr]; rfl) dX6_beginWaiting_15 ?_
      refine g_ifnull (pc := 18) cx dX6_beginWaiting_18 ?_
      refine z_al_3_0 (pc := 21) cx dX6_beginWaiting_21 ?_
      refine g_getf (pc := 22) (v := .ref a) cx fl_X6_198 hc.x (by show some (va_rf (R 0 6)) = _; rw [hr]; rfl) dX6_beginWaiting_22 ?_
      refine z_il_3_1 (pc := 25) cx dX6_beginWaiting_25 ?_
      refine z_al_3_0 (pc := 26) cx dX6_beginWaiting_26 ?_
      refine g_getf (pc := 27) cx fl_X6_134 hc.x rfl dX6_beginWaiting_27 ?_
      refine z_al_3_2 (pc := 30) cx dX6_beginWaiting_30 ?_
      refine g_getf (pc := 31) cx fl_X6_249 (hc.pt (by omega)) rfl dX6_beginWaiting_31 ?_
      refine z_iconst (pc := 34) cx dX6_beginWaiting_34 ?_
      refine z_iald (pc := 35) (N := 4) cx (hc.sz (by omega)) dX6_beginWaiting_35 (by omega) ?_
      refine s_callV (pc := 36) cx lk_X6_252 (c_X2_isFree hsc (by omega) hq (m := (C (24 + w + 6) 0).toNat) (by omega) (by omega) (by omega)) s0.1 rfl gy_X2_isFree ⟨⟨by decide, by decide⟩, by decide, by decide⟩ ⟨rfl, rfl⟩ rfl rfl (Nat.le_of_ble_eq_true rfl) dX6_beginWaiting_36 ?_
      show G Γ _ _ _ 39 _ (.int _ :: _)
      refine z_if_eq (pc := 39) (tgt := 46) cx (by have := bz_r (frF n.toNat Q (w : Int) (C 0 9) (C (24 + w + 6) 0).toNat); omega) (by decide) dX6_beginWaiting_39 (fun c_39 => ?_) (fun c_39 => ?_)
      · skip
        exact g_return (pc := 46) cx rx (by decide) (by decide) dX6_beginWaiting_46 ⟨rfl, (by
          unfold bwF
          first
          | (rw [if_neg (by rw [bz_0.mp c_11, Bool.false_and]; decide)]; exact hc)
          | (rw [if_pos (by rw [bz_n0.mp c_11, decide_eq_true (show n < 0 by omega)]; rfl)]; exact hc)
          | (rw [if_neg (by rw [bz_n0.mp c_11, decide_eq_false (show ¬ n < 0 by omega), bz_0.mp c_39]; decide)]; exact hc)
          | (rw [if_pos (by rw [bz_n0.mp c_11, bz_n0.mp c_39, Bool.or_true]; rfl)]; exact hc)), hF⟩
      · skip
        refine z_al_3_2 (pc := 42) cx dX6_beginWaiting_42 ?_
        refine c_callV (pc := 43) cx lk_X6_255 (c_X1_beginFirst hc (by omega) hp.1 (hw1 (bz_n0.mp c_11))) (hc.pt (by omega)) hF rfl gy_X1_beginFirst ⟨⟨by decide, by decide⟩, by decide, by decide⟩ ⟨rfl, rfl⟩ rfl rfl (Nat.le_of_ble_eq_true rfl) dX6_beginWaiting_43 ?_
        intro σ hc hF
        show G Γ _ _ _ 46 _ _
        exact g_return (pc := 46) cx rx (by decide) (by decide) dX6_beginWaiting_46 ⟨rfl, (by
          unfold bwF
          first
          | (rw [if_neg (by rw [bz_0.mp c_11, Bool.false_and]; decide)]; exact hc)
          | (rw [if_pos (by rw [bz_n0.mp c_11, decide_eq_true (show n < 0 by omega)]; rfl)]; exact hc)
          | (rw [if_neg (by rw [bz_n0.mp c_11, decide_eq_false (show ¬ n < 0 by omega), bz_0.mp c_39]; decide)]; exact hc)
          | (rw [if_pos (by rw [bz_n0.mp c_11, bz_n0.mp c_39, Bool.or_true]; rfl)]; exact hc)), hF⟩
