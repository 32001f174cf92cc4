/-! contracts (walks laid by program) -/
set_option maxRecDepth 100000 in
set_option maxHeartbeats 4000000 in
theorem c_X0_latency {lc : Launch} {dA : Nat → ClassId} {cd : Nat → Nat} {σ0 : hS} {a : Nat} {P : mS} (hp : isPS dA cd σ0 a P) (hw : PW P) : gM lc dA yX0_latency (.code yX0_latency cX0_latency 1 (some .int)) { frames := 0, cells := 0, slots := 0, locals := 0 } σ0 [.ref a] (sP σ0 (some (.int (iI (P 5 (P 8 0 - 1)))))) nX := by
  refine gM_body (by decide +kernel) (by simp [Value.category]) (Nat.le_of_ble_eq_true rfl) (fun Γ hdA cx rx nx => ?_)
  subst hdA
  have cx : CX lc Γ cX0_latency RX0 1 { frames := 0, cells := 0, slots := 0, locals := 0 } := cx
  show G Γ σ0 0 0 0 [some (.ref a)] []
  obtain ⟨pa, ba, ea, sa, q0, q1, q2, q3, q4⟩ := id hp
  obtain ⟨w8, w0, w1, w2, w3, w7⟩ := id hw
  refine z_al_1_0 (pc := 0) cx dX0_latency_0 ?_
  refine g_getf (pc := 1) cx fl_X0_34 q0.1 rfl dX0_latency_1 ?_
  refine z_al_1_0 (pc := 4) cx dX0_latency_4 ?_
  refine g_getf (pc := 5) cx fl_X0_34 q0.1 rfl dX0_latency_5 ?_
  refine g_len (pc := 8) (t := 0) (v := iI (P 8 0)) cx q3.1 rfl (by rw [← Int32.ofInt_eq_ofNat]; show iI _ = _; rw [Int.toNat_of_nonneg (by omega)]) dX0_latency_8 ?_
  refine z_iconst (pc := 9) cx dX0_latency_9 ?_
  refine z_isub (pc := 10) cx dX0_latency_10 ?_
  refine z_iald (pc := 11) (N := (P 8 0).toNat) cx q3.1 dX0_latency_11 (by omega) ?_
  exact z_ret (pc := 12) cx rx (by decide) (by decide) dX0_latency_12 ⟨rfl, rfl⟩

set_option maxRecDepth 100000 in
set_option maxHeartbeats 4000000 in
theorem c_X0_spansWith {lc : Launch} {dA : Nat → ClassId} {cd : Nat → Nat} {σ0 : hS} {a : Nat} {P : mS} (hp : isPS dA cd σ0 a P) (hw : PW P) {j off : Int} (hj : 0 ≤ j ∧ j < P 8 0) : gM lc dA yX0_spansWith (.code yX0_spansWith cX0_spansWith 3 (some .int)) { frames := 0, cells := 0, slots := 0, locals := 0 } σ0 [.ref a, .int (iI j), .int (iI off)] (sP σ0 (some (.int (spW (P 6 j) off)))) nX := by
  refine gM_body (by decide +kernel) (by simp [Value.category]) (Nat.le_of_ble_eq_true rfl) (fun Γ hdA cx rx nx => ?_)
  subst hdA
  have cx : CX lc Γ cX0_spansWith RX0 3 { frames := 0, cells := 0, slots := 0, locals := 0 } := cx
  show G Γ σ0 0 0 0 [some (.ref a), some (.int (iI j)), some (.int (iI off))] []
  obtain ⟨pa, ba, ea, sa, q0, q1, q2, q3, q4⟩ := id hp
  obtain ⟨w8, w0, w1, w2, w3, w7⟩ := id hw
  refine z_al_3_0 (pc := 0) cx dX0_spansWith_0 ?_
  refine g_getf (pc := 1) cx fl_X0_37 q0.1 rfl dX0_spansWith_1 ?_
  refine z_il_3_1 (pc := 4) cx dX0_spansWith_4 ?_
  refine z_iald (pc := 5) (N := (P 8 0).toNat) cx q4.1 dX0_spansWith_5 (by omega) ?_
  refine z_il_3_2 (pc := 6) cx dX0_spansWith_6 ?_
  refine g_ishl (pc := 7) cx dX0_spansWith_7 ?_
  refine z_al_3_0 (pc := 8) cx dX0_spansWith_8 ?_
  refine g_getf (pc := 9) cx fl_X0_37 q0.1 rfl dX0_spansWith_9 ?_
  refine z_il_3_1 (pc := 12) cx dX0_spansWith_12 ?_
  refine z_iald (pc := 13) (N := (P 8 0).toNat) cx q4.1 dX0_spansWith_13 (by omega) ?_
  refine z_bipush (pc := 14) cx rfl dX0_spansWith_14 ?_
  refine z_il_3_2 (pc := 16) cx dX0_spansWith_16 ?_
  refine z_isub (pc := 17) cx dX0_spansWith_17 ?_
  refine z_bipush (pc := 18) cx rfl dX0_spansWith_18 ?_
  refine g_iand (pc := 20) cx dX0_spansWith_20 ?_
  refine g_iushr (pc := 21) cx dX0_spansWith_21 ?_
  refine g_ior (pc := 22) cx dX0_spansWith_22 ?_
  exact g_ireturn (pc := 23) cx rx (by decide) (by decide) dX0_spansWith_23 ⟨rfl, rfl⟩

set_option maxRecDepth 100000 in
set_option maxHeartbeats 4000000 in
theorem c_X0_hasSpanAt {lc : Launch} {dA : Nat → ClassId} {cd : Nat → Nat} {σ0 : hS} {a : Nat} {P : mS} (hp : isPS dA cd σ0 a P) (hw : PW P) {j t : Int} (hj : 0 ≤ j ∧ j < P 8 0) : gM lc dA yX0_hasSpanAt (.code yX0_hasSpanAt cX0_hasSpanAt 3 (some .boolean)) { frames := 1, cells := 0, slots := 0, locals := 22 } σ0 [.ref a, .int (iI j), .int (iI t)] (sP σ0 (some (.int (iI (bz (hsA P j t)))))) nX := by
  refine gM_body (by decide +kernel) (by simp [Value.category]) (Nat.le_of_ble_eq_true rfl) (fun Γ hdA cx rx nx => ?_)
  subst hdA
  have cx : CX lc Γ cX0_hasSpanAt RX0 3 { frames := 1, cells := 0, slots := 0, locals := 22 } := cx
  show G Γ σ0 0 0 0 [some (.ref a), some (.int (iI j)), some (.int (iI t))] []
  obtain ⟨pa, ba, ea, sa, q0, q1, q2, q3, q4⟩ := id hp
  obtain ⟨w8, w0, w1, w2, w3, w7⟩ := id hw
  refine z_al_3_0 (pc := 0) cx dX0_hasSpanAt_0 ?_
  refine z_il_3_1 (pc := 1) cx dX0_hasSpanAt_1 ?_
  refine z_al_3_0 (pc := 2) cx dX0_hasSpanAt_2 ?_
  refine g_getf (pc := 3) cx fl_X0_44 q0.1 rfl dX0_hasSpanAt_3 ?_
  refine s_callV (pc := 6) cx lk_X0_47 (c_X0_spansWith hp hw hj) q0.1 rfl gy_X0_spansWith ⟨⟨by decide, by decide⟩, by decide, by decide⟩ ⟨rfl, rfl⟩ rfl rfl (Nat.le_of_ble_eq_true rfl) dX0_hasSpanAt_6 ?_
  show G Γ _ _ _ 9 _ (.int _ :: _)
  refine z_il_3_2 (pc := 9) cx dX0_hasSpanAt_9 ?_
  refine z_bipush (pc := 10) cx rfl dX0_hasSpanAt_10 ?_
  refine g_iand (pc := 12) cx dX0_hasSpanAt_12 ?_
  refine g_iushr (pc := 13) cx dX0_hasSpanAt_13 ?_
  refine z_iconst (pc := 14) cx dX0_hasSpanAt_14 ?_
  refine g_iand (pc := 15) cx dX0_hasSpanAt_15 ?_
  refine z_iconst (pc := 16) cx dX0_hasSpanAt_16 ?_
  refine g_icmp_ne (pc := 17) (tgt := 24) cx (by decide) dX0_hasSpanAt_17 (fun c_17 => ?_) (fun c_17 => ?_)
  · skip
    refine z_iconst (pc := 24) cx dX0_hasSpanAt_24 ?_
    exact (z_retb (pc := 25) (b := hsA P j t) cx rx (by decide) (by decide) dX0_hasSpanAt_25 (by
      unfold hsA
      first
      | (rw [decide_eq_true c_17]; rfl)
      | (rw [decide_eq_false c_17]; rfl)) ⟨rfl, rfl⟩)
  · skip
    refine z_iconst (pc := 20) cx dX0_hasSpanAt_20 ?_
    refine g_goto (pc := 21) (tgt := 25) cx (by decide) dX0_hasSpanAt_21 ?_
    exact (z_retb (pc := 25) (b := hsA P j t) cx rx (by decide) (by decide) dX0_hasSpanAt_25 (by
      unfold hsA
      first
      | (rw [decide_eq_true c_17]; rfl)
      | (rw [decide_eq_false c_17]; rfl)) ⟨rfl, rfl⟩)

set_option maxRecDepth 100000 in
set_option maxHeartbeats 4000000 in
theorem c_X0_hopOn {lc : Launch} {dA : Nat → ClassId} {cd : Nat → Nat} {σ0 : hS} {a : Nat} {P : mS} (hp : isPS dA cd σ0 a P) (hw : PW P) {w : Int} (hwr : 0 ≤ w ∧ w < 6) : gM lc dA yX0_hopOn (.code yX0_hopOn cX0_hopOn 3 (some .int)) { frames := 0, cells := 0, slots := 0, locals := 0 } σ0 [.ref a, .int (iI w)] (sP σ0 (some (.int (iI (hopF P w))))) nX := by
  refine gM_body (by decide +kernel) (by simp [Value.category]) (Nat.le_of_ble_eq_true rfl) (fun Γ hdA cx rx nx => ?_)
  subst hdA
  have cx : CX lc Γ cX0_hopOn RX0 3 { frames := 0, cells := 0, slots := 0, locals := 0 } := cx
  show G Γ σ0 0 0 0 [some (.ref a), some (.int (iI w)), none] []
  obtain ⟨pa, ba, ea, sa, q0, q1, q2, q3, q4⟩ := id hp
  obtain ⟨w8, w0, w1, w2, w3, w7⟩ := id hw
  refine z_iconst (pc := 0) cx dX0_hopOn_0 ?_
  refine z_is_3_2 (pc := 1) cx dX0_hopOn_1 ?_
  have J2 : ∀ (n j : Nat), j + n = (P 8 0).toNat → (∀ k : Nat, k < j → decide (P 3 (k : Int) = w) = false) → G Γ σ0 0 0 2 [some (.ref a), some (.int (iI w)), some (.int (iI (j : Int)))] [] := by
    intro n
    induction n using Nat.strongRecOn with
    | _ n ih =>
    intro j hjn hno
    refine z_il_3_2 (pc := 2) cx dX0_hopOn_2 ?_
    refine z_al_3_0 (pc := 3) cx dX0_hopOn_3 ?_
    refine g_getf (pc := 4) cx fl_X0_30 q0.1 rfl dX0_hopOn_4 ?_
    refine g_len (pc := 7) (t := 0) (v := iI (P 8 0)) cx q1.1 rfl (by rw [← Int32.ofInt_eq_ofNat]; show iI _ = _; rw [Int.toNat_of_nonneg (by omega)]) dX0_hopOn_7 ?_
    refine z_icmp_ge (pc := 8) (tgt := 29) cx (by omega) (by decide) dX0_hopOn_8 (fun c_8 => ?_) (fun c_8 => ?_)
    · skip
      refine z_iconst (pc := 29) cx dX0_hopOn_29 ?_
      exact z_ret (pc := 30) cx rx (by decide) (by decide) dX0_hopOn_30 ⟨by rw [hopF, fstN_none (fun k q => hno k (by omega))], rfl⟩
    · skip
      refine z_al_3_0 (pc := 11) cx dX0_hopOn_11 ?_
      refine g_getf (pc := 12) cx fl_X0_30 q0.1 rfl dX0_hopOn_12 ?_
      refine z_il_3_2 (pc := 15) cx dX0_hopOn_15 ?_
      have w3j := (w3 (j : Int) (by omega) (by omega)).1
      refine z_iald (pc := 16) (N := (P 8 0).toNat) cx q1.1 dX0_hopOn_16 (by omega) ?_
      refine z_il_3_1 (pc := 17) cx dX0_hopOn_17 ?_
      refine z_icmp_ne (pc := 18) (tgt := 23) cx (by omega) (by decide) dX0_hopOn_18 (fun c_18 => ?_) (fun c_18 => ?_)
      · skip
        refine z_ii_3_2 (pc := 23) cx dX0_hopOn_23 ?_
        refine g_goto (pc := 26) (tgt := 2) cx (by decide) dX0_hopOn_26 ?_
        exact ih (n - 1) (by omega) (j + 1) (by omega) (fun k q => (Nat.lt_succ_iff_lt_or_eq.mp q).elim (hno k) (fun q => by rw [q]; exact decide_eq_false c_18))
      · skip
        refine z_il_3_2 (pc := 21) cx dX0_hopOn_21 ?_
        exact z_ret (pc := 22) cx rx (by decide) (by decide) dX0_hopOn_22 ⟨by rw [hopF, fstN_hit hno (decide_eq_true c_18) (by omega)], rfl⟩
  exact J2 (P 8 0).toNat 0 (by omega) (fun k q => absurd q (Nat.not_lt_zero _))

set_option maxRecDepth 100000 in
set_option maxHeartbeats 4000000 in
theorem c_X0_beginsAt {lc : Launch} {dA : Nat → ClassId} {cd : Nat → Nat} {σ0 : hS} {a : Nat} {P : mS} (hp : isPS dA cd σ0 a P) (hw : PW P) {t : Int} (ht : 0 ≤ t ∧ t ≤ 1000000) : gM lc dA yX0_beginsAt (.code yX0_beginsAt cX0_beginsAt 2 (some .boolean)) { frames := 0, cells := 0, slots := 0, locals := 0 } σ0 [.ref a, .int (iI t)] (sP σ0 (some (.int (iI (bz (decide ((t - P 7 0) % P 0 0 = 0))))))) nX := by
  refine gM_body (by decide +kernel) (by simp [Value.category]) (Nat.le_of_ble_eq_true rfl) (fun Γ hdA cx rx nx => ?_)
  subst hdA
  have cx : CX lc Γ cX0_beginsAt RX0 2 { frames := 0, cells := 0, slots := 0, locals := 0 } := cx
  show G Γ σ0 0 0 0 [some (.ref a), some (.int (iI t))] []
  obtain ⟨pa, ba, ea, sa, q0, q1, q2, q3, q4⟩ := id hp
  obtain ⟨w8, w0, w1, w2, w3, w7⟩ := id hw
  have hm : iI (t - P 7 0) &&& iI (P 0 0 - 1) = iI ((t - P 7 0) % P 0 0) := by
    rcases w0 with q | q | q <;> rw [q]
    · exact iI_mask 3 (by decide) (by omega)
    · exact iI_mask 4 (by decide) (by omega)
    · exact iI_mask 5 (by decide) (by omega)
  have hr1 := Int.emod_nonneg (t - P 7 0) (show P 0 0 ≠ 0 by omega)
  have hr2 := Int.emod_lt_of_pos (t - P 7 0) (show 0 < P 0 0 by omega)
  refine z_il_2_1 (pc := 0) cx dX0_beginsAt_0 ?_
  refine z_al_2_0 (pc := 1) cx dX0_beginsAt_1 ?_
  refine g_getf (pc := 2) cx fl_X0_44 q0.1 rfl dX0_beginsAt_2 ?_
  refine z_isub (pc := 5) cx dX0_beginsAt_5 ?_
  refine z_al_2_0 (pc := 6) cx dX0_beginsAt_6 ?_
  refine g_getf (pc := 7) cx fl_X0_15 q0.1 rfl dX0_beginsAt_7 ?_
  refine z_iconst (pc := 10) cx dX0_beginsAt_10 ?_
  refine z_isub (pc := 11) cx dX0_beginsAt_11 ?_
  refine g_iand (pc := 12) cx dX0_beginsAt_12 ?_
  rw [hm]
  refine z_if_ne (pc := 13) (tgt := 20) cx (by omega) (by decide) dX0_beginsAt_13 (fun c_13 => ?_) (fun c_13 => ?_)
  · skip
    refine z_iconst (pc := 20) cx dX0_beginsAt_20 ?_
    exact (z_retb (pc := 21) (b := decide ((t - P 7 0) % P 0 0 = 0)) cx rx (by decide) (by decide) dX0_beginsAt_21 (bzd (by omega)) ⟨rfl, rfl⟩)
  · skip
    refine z_iconst (pc := 16) cx dX0_beginsAt_16 ?_
    refine g_goto (pc := 17) (tgt := 21) cx (by decide) dX0_beginsAt_17 ?_
    exact (z_retb (pc := 21) (b := decide ((t - P 7 0) % P 0 0 = 0)) cx rx (by decide) (by decide) dX0_beginsAt_21 (bzd (by omega)) ⟨rfl, rfl⟩)

set_option maxRecDepth 100000 in
set_option maxHeartbeats 4000000 in
theorem c_X0_spansFrom {lc : Launch} {dA : Nat → ClassId} {σ0 : hS} {b p s : Int} (hh : (0 ≤ b ∧ b ≤ 1000) ∧ (p = 8 ∨ p = 16 ∨ p = 32) ∧ (1 ≤ s ∧ s ≤ 4)) : gM lc dA yX0_spansFrom (.code yX0_spansFrom cX0_spansFrom 6 (some .int)) { frames := 0, cells := 0, slots := 0, locals := 0 } σ0 [.int (iI b), .int (iI p), .int (iI s)] (sP σ0 (some (.int (sfF b p s)))) nX := by
  refine gM_body (by decide +kernel) (by simp [Value.category]) (Nat.le_of_ble_eq_true rfl) (fun Γ hdA cx rx nx => ?_)
  subst hdA
  have cx : CX lc Γ cX0_spansFrom RX0 6 { frames := 0, cells := 0, slots := 0, locals := 0 } := cx
  show G Γ σ0 0 0 0 [some (.int (iI b)), some (.int (iI p)), some (.int (iI s)), none, none, none] []
  refine z_iconst (pc := 0) cx dX0_spansFrom_0 ?_
  refine z_is_6_3 (pc := 1) cx dX0_spansFrom_1 ?_
  refine z_iconst (pc := 2) cx dX0_spansFrom_2 ?_
  refine z_is_6_4 (pc := 3) cx dX0_spansFrom_3 ?_
  have J5 : ∀ (n m : Nat) (x5 : Option Value), m + n = (32 / p).toNat → G Γ σ0 0 0 5 [some (.int (iI b)), some (.int (iI p)), some (.int (iI s)), some (.int (sfO b p s m)), some (.int (iI ((m : Int) * p))), x5] [] := by
    intro n
    induction n using Nat.strongRecOn with
    | _ n ih =>
    intro m x5 hmn
    have hmp : 0 ≤ (m : Int) * p ∧ (m : Int) * p ≤ 32 ∧ ((m : Int) * p < 32 ↔ m < (32 / p).toNat) := by
      rcases hh.2.1 with q | q | q <;> subst q <;> simp only [Int.reduceDiv, Int.reduceToNat] at hmn ⊢ <;> omega
    refine z_il_6_4 (pc := 5) cx dX0_spansFrom_5 ?_
    refine z_bipush (pc := 7) cx rfl dX0_spansFrom_7 ?_
    refine z_icmp_ge (pc := 9) (tgt := 51) cx (by omega) (by decide) dX0_spansFrom_9 (fun c_9 => ?_) (fun c_9 => ?_)
    · obtain rfl : m = (32 / p).toNat := by omega
      refine z_il_6_3 (pc := 51) cx dX0_spansFrom_51 ?_
      exact g_ireturn (pc := 52) cx rx (by decide) (by decide) dX0_spansFrom_52 ⟨rfl, rfl⟩
    · skip
      refine z_iconst (pc := 12) cx dX0_spansFrom_12 ?_
      refine z_is_6_5 (pc := 13) cx dX0_spansFrom_13 ?_
      have J15 : ∀ (n2 k : Nat), k + n2 = (s + 1).toNat → G Γ σ0 0 0 15 [some (.int (iI b)), some (.int (iI p)), some (.int (iI s)), some (.int (sfI b ((m : Int) * p) k (sfO b p s m))), some (.int (iI ((m : Int) * p))), some (.int (iI ((k : Int) - 1)))] [] := by
        intro n2
        induction n2 using Nat.strongRecOn with
        | _ n2 ih2 =>
        intro k hkn
        refine z_il_6_5 (pc := 15) cx dX0_spansFrom_15 ?_
        refine z_il_6_2 (pc := 17) cx dX0_spansFrom_17 ?_
        refine z_icmp_ge (pc := 18) (tgt := 42) cx (by omega) (by decide) dX0_spansFrom_18 (fun c_18 => ?_) (fun c_18 => ?_)
        · obtain rfl : k = (s + 1).toNat := by omega
          refine z_il_6_4 (pc := 42) cx dX0_spansFrom_42 ?_
          refine z_il_6_1 (pc := 44) cx dX0_spansFrom_44 ?_
          refine z_iadd (pc := 45) cx dX0_spansFrom_45 ?_
          refine z_is_6_4 (pc := 46) cx dX0_spansFrom_46 ?_
          refine g_goto (pc := 48) (tgt := 5) cx (by decide) dX0_spansFrom_48 ?_
          refine g_l (ih (n - 1) (by omega) (m + 1) (some (.int (iI ((((s + 1).toNat : Nat) : Int) - 1)))) (by omega)) ?_
          rw [show (m : Int) * p + p = ((m + 1 : Nat) : Int) * p by rw [Int.natCast_add, Int.add_mul]; simp]
          rfl
        · skip
          refine z_il_6_3 (pc := 21) cx dX0_spansFrom_21 ?_
          refine z_iconst (pc := 22) cx dX0_spansFrom_22 ?_
          refine z_il_6_0 (pc := 23) cx dX0_spansFrom_23 ?_
          refine z_il_6_4 (pc := 24) cx dX0_spansFrom_24 ?_
          refine z_iadd (pc := 26) cx dX0_spansFrom_26 ?_
          refine z_il_6_5 (pc := 27) cx dX0_spansFrom_27 ?_
          refine z_iadd (pc := 29) cx dX0_spansFrom_29 ?_
          refine z_bipush (pc := 30) cx rfl dX0_spansFrom_30 ?_
          refine g_iand (pc := 32) cx dX0_spansFrom_32 ?_
          refine g_ishl (pc := 33) cx dX0_spansFrom_33 ?_
          refine g_ior (pc := 34) cx dX0_spansFrom_34 ?_
          refine z_is_6_3 (pc := 35) cx dX0_spansFrom_35 ?_
          refine z_ii_6_5 (pc := 36) cx dX0_spansFrom_36 ?_
          refine g_goto (pc := 39) (tgt := 15) cx (by decide) dX0_spansFrom_39 ?_
          refine g_l (ih2 (n2 - 1) (by omega) (k + 1) (by omega)) ?_
          rw [show ((k + 1 : Nat) : Int) - 1 = (k : Int) - 1 + 1 by omega]
          rfl
      exact J15 (s + 1).toNat 0 (by omega)
  refine g_l (J5 (32 / p).toNat 0 none (by omega)) ?_
  simp [sfO]
