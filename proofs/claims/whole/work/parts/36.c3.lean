/-! contracts (walks laid by program) -/
set_option maxRecDepth 100000 in
set_option maxHeartbeats 4000000 in
theorem c_X2_ownerOf {lc : Launch} {dA : Nat → ClassId} {cd : Nat → Nat} {σ0 : hS} {a n : Nat} {Q : Nat → mS} (hs : isSc dA cd σ0 a n Q) (hn : n ≤ 5) (hq : ∀ i, i < n → PW (Q i)) {w t : Int} (hwr : 0 ≤ w ∧ w < 6) : gM lc dA yX2_ownerOf (.code yX2_ownerOf cX2_ownerOf 5 (some .int)) { frames := 2, cells := 0, slots := 0, locals := 44 } σ0 [.ref a, .int (iI w), .int (iI t)] (sP σ0 (some (.int (iI (owF n Q w t))))) nX := by
  refine gM_body (by decide +kernel) (by simp [Value.category]) (Nat.le_of_ble_eq_true rfl) (fun Γ hdA cx rx nx => ?_)
  subst hdA
  have cx : CX lc Γ cX2_ownerOf RX2 5 { frames := 2, cells := 0, slots := 0, locals := 44 } := cx
  show G Γ σ0 0 0 0 [some (.ref a), some (.int (iI w)), some (.int (iI t)), none, none] []
  obtain ⟨arr, A, s0, s1, s2⟩ := id hs
  refine z_iconst (pc := 0) cx dX2_ownerOf_0 ?_
  refine z_is_5_3 (pc := 1) cx dX2_ownerOf_1 ?_
  have J2 : ∀ (m i : Nat) (x4 : Option Value), i + m = n → (∀ k : Nat, k < i → owI Q w t k = false) → G Γ σ0 0 0 2 [some (.ref a), some (.int (iI w)), some (.int (iI t)), some (.int (iI (i : Int))), x4] [] := by
    intro m
    induction m using Nat.strongRecOn with
    | _ m ih =>
    intro i x4 him hno
    refine z_il_5_3 (pc := 2) cx dX2_ownerOf_2 ?_
    refine z_al_5_0 (pc := 3) cx dX2_ownerOf_3 ?_
    refine g_getf (pc := 4) cx fl_X2_9 s0.1 rfl dX2_ownerOf_4 ?_
    refine g_len (pc := 7) (t := 2) (v := iI (n : Int)) cx s1.1 rfl (Int32.ofInt_eq_ofNat.symm) dX2_ownerOf_7 ?_
    refine z_icmp_ge (pc := 8) (tgt := 52) cx (by omega) (by decide) dX2_ownerOf_8 (fun c_8 => ?_) (fun c_8 => ?_)
    · skip
      refine z_iconst (pc := 52) cx dX2_ownerOf_52 ?_
      exact z_ret (pc := 53) cx rx (by decide) (by decide) dX2_ownerOf_53 ⟨by rw [owF, fstN_none (fun k q => hno k (by omega))], rfl⟩
    · skip
      obtain ⟨ai, hA, hpi⟩ := s2 i (by omega)
      obtain ⟨pa, ba, ea, sa, q0, -⟩ := id hpi
      have hqi := hq i (by omega)
      have hhr := hopF_r hqi w
      have h8i := hqi.1
      refine z_al_5_0 (pc := 11) cx dX2_ownerOf_11 ?_
      refine g_getf (pc := 12) cx fl_X2_9 s0.1 rfl dX2_ownerOf_12 ?_
      refine z_il_5_3 (pc := 15) cx dX2_ownerOf_15 ?_
      refine g_aald2 (pc := 16) cx s1.1 (iI_in (by omega) (by omega)) dX2_ownerOf_16 ?_
      rw [iI_cl (by omega), Int.toNat_natCast, hA]
      show G Γ _ _ _ 17 _ (.ref ai :: _)
      refine z_il_5_1 (pc := 17) cx dX2_ownerOf_17 ?_
      refine s_callV (pc := 18) cx lk_X2_15 (c_X0_hopOn hpi hqi hwr) q0.1 rfl gy_X0_hopOn ⟨⟨by decide, by decide⟩, by decide, by decide⟩ ⟨rfl, rfl⟩ rfl rfl (Nat.le_of_ble_eq_true rfl) dX2_ownerOf_18 ?_
      show G Γ _ _ _ 21 _ (.int _ :: _)
      refine z_is_5_4 (pc := 21) cx dX2_ownerOf_21 ?_
      refine z_il_5_4 (pc := 23) cx dX2_ownerOf_23 ?_
      refine z_iconst (pc := 25) cx dX2_ownerOf_25 ?_
      refine z_icmp_eq (pc := 26) (tgt := 46) cx (by omega) (by decide) dX2_ownerOf_26 (fun c_26 => ?_) (fun c_26 => ?_)
      · skip
        refine z_ii_5_3 (pc := 46) cx dX2_ownerOf_46 ?_
        refine g_goto (pc := 49) (tgt := 2) cx (by decide) dX2_ownerOf_49 ?_
        exact ih (m - 1) (by omega) (i + 1) _ (by omega) (fun k q => (Nat.lt_succ_iff_lt_or_eq.mp q).elim (hno k) (fun q => by
          rw [q, owI]
          first
          | (rw [decide_eq_false (p := hopF (Q i) w ≠ -1) (fun q => q c_26)]; rfl)
          | (rw [bz_0.mp c_41, Bool.and_false])))
      · skip
        refine z_al_5_0 (pc := 29) cx dX2_ownerOf_29 ?_
        refine g_getf (pc := 30) cx fl_X2_9 s0.1 rfl dX2_ownerOf_30 ?_
        refine z_il_5_3 (pc := 33) cx dX2_ownerOf_33 ?_
        refine g_aald2 (pc := 34) cx s1.1 (iI_in (by omega) (by omega)) dX2_ownerOf_34 ?_
        rw [iI_cl (by omega), Int.toNat_natCast, hA]
        show G Γ _ _ _ 35 _ (.ref ai :: _)
        refine z_il_5_4 (pc := 35) cx dX2_ownerOf_35 ?_
        refine z_il_5_2 (pc := 37) cx dX2_ownerOf_37 ?_
        refine s_callV (pc := 38) cx lk_X2_21 (c_X0_hasSpanAt hpi hqi (by omega)) q0.1 rfl gy_X0_hasSpanAt ⟨⟨by decide, by decide⟩, by decide, by decide⟩ ⟨rfl, rfl⟩ rfl rfl (Nat.le_of_ble_eq_true rfl) dX2_ownerOf_38 ?_
        show G Γ _ _ _ 41 _ (.int _ :: _)
        refine z_if_eq (pc := 41) (tgt := 46) cx (by have := bz_r (hsA (Q i) (hopF (Q i) w) t); omega) (by decide) dX2_ownerOf_41 (fun c_41 => ?_) (fun c_41 => ?_)
        · skip
          refine z_ii_5_3 (pc := 46) cx dX2_ownerOf_46 ?_
          refine g_goto (pc := 49) (tgt := 2) cx (by decide) dX2_ownerOf_49 ?_
          exact ih (m - 1) (by omega) (i + 1) _ (by omega) (fun k q => (Nat.lt_succ_iff_lt_or_eq.mp q).elim (hno k) (fun q => by
            rw [q, owI]
            first
            | (rw [decide_eq_false (p := hopF (Q i) w ≠ -1) (fun q => q c_26)]; rfl)
            | (rw [bz_0.mp c_41, Bool.and_false])))
        · skip
          refine z_il_5_3 (pc := 44) cx dX2_ownerOf_44 ?_
          exact z_ret (pc := 45) cx rx (by decide) (by decide) dX2_ownerOf_45 ⟨by rw [owF, fstN_hit hno (show owI Q w t i = true by rw [owI, decide_eq_true (p := hopF (Q i) w ≠ -1) c_26, bz_n0.mp c_41]; rfl) (by omega)], rfl⟩
  exact J2 n 0 _ (by omega) (fun k q => absurd q (Nat.not_lt_zero _))

set_option maxRecDepth 100000 in
set_option maxHeartbeats 4000000 in
theorem c_X2_isFree {lc : Launch} {dA : Nat → ClassId} {cd : Nat → Nat} {σ0 : hS} {a n : Nat} {Q : Nat → mS} (hs : isSc dA cd σ0 a n Q) (hn : n ≤ 5) (hq : ∀ i, i < n → PW (Q i)) {w t : Int} {m : Nat} {mi : Int} (hwr : 0 ≤ w ∧ w < 6) (hmi : mi = (m : Int)) (hm8 : m ≤ 8) : gM lc dA yX2_isFree (.code yX2_isFree cX2_isFree 5 (some .boolean)) { frames := 3, cells := 0, slots := 0, locals := 68 } σ0 [.ref a, .int (iI w), .int (iI t), .int (iI mi)] (sP σ0 (some (.int (iI (bz (frF n Q w t m)))))) nX := by
  refine gM_body (by decide +kernel) (by simp [Value.category]) (Nat.le_of_ble_eq_true rfl) (fun Γ hdA cx rx nx => ?_)
  subst hdA
  have cx : CX lc Γ cX2_isFree RX2 5 { frames := 3, cells := 0, slots := 0, locals := 68 } := cx
  show G Γ σ0 0 0 0 [some (.ref a), some (.int (iI w)), some (.int (iI t)), some (.int (iI mi)), none] []
  subst hmi
  obtain ⟨arr, A, s0, s1, s2⟩ := id hs
  refine z_iconst (pc := 0) cx dX2_isFree_0 ?_
  refine z_is_5_4 (pc := 1) cx dX2_isFree_1 ?_
  have J3 : ∀ (z k : Nat), k + z = m → (∀ k' : Nat, k' < k → decide (owF n Q w (t + (k' : Int)) = -1) = true) → G Γ σ0 0 0 3 [some (.ref a), some (.int (iI w)), some (.int (iI t)), some (.int (iI (m : Int))), some (.int (iI (k : Int)))] [] := by
    intro z
    induction z using Nat.strongRecOn with
    | _ z ih =>
    intro k hkz hyes
    have hor := fstN_r (n := n) (f := owI Q w (t + (k : Int)))
    have hor2 : -1 ≤ owF n Q w (t + (k : Int)) ∧ owF n Q w (t + (k : Int)) < 5 := by unfold owF; omega
    refine z_il_5_4 (pc := 3) cx dX2_isFree_3 ?_
    refine z_il_5_3 (pc := 5) cx dX2_isFree_5 ?_
    refine z_icmp_ge (pc := 6) (tgt := 30) cx (by omega) (by decide) dX2_isFree_6 (fun c_6 => ?_) (fun c_6 => ?_)
    · skip
      refine z_iconst (pc := 30) cx dX2_isFree_30 ?_
      exact (z_retb (pc := 31) (b := frF n Q w t m) cx rx (by decide) (by decide) dX2_isFree_31 (by rw [frF, allN_iff.mpr (fun k q => hyes k (by omega))]; rfl) ⟨rfl, rfl⟩)
    · skip
      refine z_al_5_0 (pc := 9) cx dX2_isFree_9 ?_
      refine z_il_5_1 (pc := 10) cx dX2_isFree_10 ?_
      refine z_il_5_2 (pc := 11) cx dX2_isFree_11 ?_
      refine z_il_5_4 (pc := 12) cx dX2_isFree_12 ?_
      refine z_iadd (pc := 14) cx dX2_isFree_14 ?_
      refine s_callV (pc := 15) cx lk_X2_25 (c_X2_ownerOf hs hn hq hwr) s0.1 rfl gy_X2_ownerOf ⟨⟨by decide, by decide⟩, by decide, by decide⟩ ⟨rfl, rfl⟩ rfl rfl (Nat.le_of_ble_eq_true rfl) dX2_isFree_15 ?_
      show G Γ _ _ _ 18 _ (.int _ :: _)
      refine z_iconst (pc := 18) cx dX2_isFree_18 ?_
      refine z_icmp_eq (pc := 19) (tgt := 24) cx (by omega) (by decide) dX2_isFree_19 (fun c_19 => ?_) (fun c_19 => ?_)
      · skip
        refine z_ii_5_4 (pc := 24) cx dX2_isFree_24 ?_
        refine g_goto (pc := 27) (tgt := 3) cx (by decide) dX2_isFree_27 ?_
        exact ih (z - 1) (by omega) (k + 1) (by omega) (fun k' q => (Nat.lt_succ_iff_lt_or_eq.mp q).elim (hyes k') (fun q => by rw [q]; exact decide_eq_true c_19))
      · skip
        refine z_iconst (pc := 22) cx dX2_isFree_22 ?_
        exact (z_retb (pc := 23) (b := frF n Q w t m) cx rx (by decide) (by decide) dX2_isFree_23 (by
          have q : frF n Q w t m = false := by
            cases hb : frF n Q w t m with
            | false => rfl
            | true =>
              have := allN_iff.mp hb k (by omega)
              exact absurd (of_decide_eq_true this) c_19
          rw [q]; rfl) ⟨rfl, rfl⟩)
  exact J3 m 0 (by omega) (fun k q => absurd q (Nat.not_lt_zero _))

set_option maxRecDepth 100000 in
set_option maxHeartbeats 4000000 in
theorem c_X6_isLink {lc : Launch} {dA : Nat → ClassId} {σ0 : hS} {w : Int} (hw : -2147483648 ≤ w ∧ w ≤ 2147483647) : gM lc dA yX6_isLink (.code yX6_isLink cX6_isLink 1 (some .boolean)) { frames := 0, cells := 0, slots := 0, locals := 0 } σ0 [.int (iI w)] (sP σ0 (some (.int (iI (bz (decide (0 ≤ w ∧ w < 6))))))) nX := by
  refine gM_body (by decide +kernel) (by simp [Value.category]) (Nat.le_of_ble_eq_true rfl) (fun Γ hdA cx rx nx => ?_)
  subst hdA
  have cx : CX lc Γ cX6_isLink RX6 1 { frames := 0, cells := 0, slots := 0, locals := 0 } := cx
  show G Γ σ0 0 0 0 [some (.int (iI w))] []
  refine z_il_1_0 (pc := 0) cx dX6_isLink_0 ?_
  refine z_if_lt (pc := 1) (tgt := 14) cx (by omega) (by decide) dX6_isLink_1 (fun c_1 => ?_) (fun c_1 => ?_)
  · skip
    refine z_iconst (pc := 14) cx dX6_isLink_14 ?_
    exact (z_retb (pc := 15) (b := decide (0 ≤ w ∧ w < 6)) cx rx (by decide) (by decide) dX6_isLink_15 (bzd (by omega)) ⟨rfl, rfl⟩)
  · skip
    refine z_il_1_0 (pc := 4) cx dX6_isLink_4 ?_
    refine z_bipush (pc := 5) cx rfl dX6_isLink_5 ?_
    refine z_icmp_ge (pc := 7) (tgt := 14) cx (by omega) (by decide) dX6_isLink_7 (fun c_7 => ?_) (fun c_7 => ?_)
    · skip
      refine z_iconst (pc := 14) cx dX6_isLink_14 ?_
      exact (z_retb (pc := 15) (b := decide (0 ≤ w ∧ w < 6)) cx rx (by decide) (by decide) dX6_isLink_15 (bzd (by omega)) ⟨rfl, rfl⟩)
    · skip
      refine z_iconst (pc := 10) cx dX6_isLink_10 ?_
      refine g_goto (pc := 11) (tgt := 15) cx (by decide) dX6_isLink_11 ?_
      exact (z_retb (pc := 15) (b := decide (0 ≤ w ∧ w < 6)) cx rx (by decide) (by decide) dX6_isLink_15 (bzd (by omega)) ⟨rfl, rfl⟩)

set_option maxRecDepth 100000 in
set_option maxHeartbeats 4000000 in
theorem c_X6_isPeriod {lc : Launch} {dA : Nat → ClassId} {σ0 : hS} {w : Int} (hw : -2147483648 ≤ w ∧ w ≤ 2147483647) : gM lc dA yX6_isPeriod (.code yX6_isPeriod cX6_isPeriod 1 (some .boolean)) { frames := 0, cells := 0, slots := 0, locals := 0 } σ0 [.int (iI w)] (sP σ0 (some (.int (iI (bz (decide (w = 8 ∨ w = 16 ∨ w = 32))))))) nX := by
  refine gM_body (by decide +kernel) (by simp [Value.category]) (Nat.le_of_ble_eq_true rfl) (fun Γ hdA cx rx nx => ?_)
  subst hdA
  have cx : CX lc Γ cX6_isPeriod RX6 1 { frames := 0, cells := 0, slots := 0, locals := 0 } := cx
  show G Γ σ0 0 0 0 [some (.int (iI w))] []
  refine z_il_1_0 (pc := 0) cx dX6_isPeriod_0 ?_
  refine z_bipush (pc := 1) cx rfl dX6_isPeriod_1 ?_
  refine z_icmp_eq (pc := 3) (tgt := 18) cx (by omega) (by decide) dX6_isPeriod_3 (fun c_3 => ?_) (fun c_3 => ?_)
  · skip
    refine z_iconst (pc := 18) cx dX6_isPeriod_18 ?_
    refine g_goto (pc := 19) (tgt := 23) cx (by decide) dX6_isPeriod_19 ?_
    exact (z_retb (pc := 23) (b := decide (w = 8 ∨ w = 16 ∨ w = 32)) cx rx (by decide) (by decide) dX6_isPeriod_23 (bzd (by omega)) ⟨rfl, rfl⟩)
  · skip
    refine z_il_1_0 (pc := 6) cx dX6_isPeriod_6 ?_
    refine z_bipush (pc := 7) cx rfl dX6_isPeriod_7 ?_
    refine z_icmp_eq (pc := 9) (tgt := 18) cx (by omega) (by decide) dX6_isPeriod_9 (fun c_9 => ?_) (fun c_9 => ?_)
    · skip
      refine z_iconst (pc := 18) cx dX6_isPeriod_18 ?_
      refine g_goto (pc := 19) (tgt := 23) cx (by decide) dX6_isPeriod_19 ?_
      exact (z_retb (pc := 23) (b := decide (w = 8 ∨ w = 16 ∨ w = 32)) cx rx (by decide) (by decide) dX6_isPeriod_23 (bzd (by omega)) ⟨rfl, rfl⟩)
    · skip
      refine z_il_1_0 (pc := 12) cx dX6_isPeriod_12 ?_
      refine z_bipush (pc := 13) cx rfl dX6_isPeriod_13 ?_
      refine z_icmp_ne (pc := 15) (tgt := 22) cx (by omega) (by decide) dX6_isPeriod_15 (fun c_15 => ?_) (fun c_15 => ?_)
      · skip
        refine z_iconst (pc := 22) cx dX6_isPeriod_22 ?_
        exact (z_retb (pc := 23) (b := decide (w = 8 ∨ w = 16 ∨ w = 32)) cx rx (by decide) (by decide) dX6_isPeriod_23 (bzd (by omega)) ⟨rfl, rfl⟩)
      · skip
        refine z_iconst (pc := 18) cx dX6_isPeriod_18 ?_
        refine g_goto (pc := 19) (tgt := 23) cx (by decide) dX6_isPeriod_19 ?_
        exact (z_retb (pc := 23) (b := decide (w = 8 ∨ w = 16 ∨ w = 32)) cx rx (by decide) (by decide) dX6_isPeriod_23 (bzd (by omega)) ⟨rfl, rfl⟩)

set_option maxRecDepth 100000 in
set_option maxHeartbeats 4000000 in
theorem c_X6_isPath {lc : Launch} {dA : Nat → ClassId} {σ0 : hS} {a b c : Int} (hw : (-2147483648 ≤ a ∧ a ≤ 2147483647) ∧ (-2147483648 ≤ b ∧ b ≤ 2147483647) ∧ (-2147483648 ≤ c ∧ c ≤ 2147483647)) : gM lc dA yX6_isPath (.code yX6_isPath cX6_isPath 3 (some .boolean)) { frames := 0, cells := 0, slots := 0, locals := 0 } σ0 [.int (iI a), .int (iI b), .int (iI c)] (sP σ0 (some (.int (iI (bz (ptB a b c)))))) nX := by
  refine gM_body (by decide +kernel) (by simp [Value.category]) (Nat.le_of_ble_eq_true rfl) (fun Γ hdA cx rx nx => ?_)
  subst hdA
  have cx : CX lc Γ cX6_isPath RX6 3 { frames := 0, cells := 0, slots := 0, locals := 0 } := cx
  show G Γ σ0 0 0 0 [some (.int (iI a)), some (.int (iI b)), some (.int (iI c))] []
  refine z_il_3_1 (pc := 0) cx dX6_isPath_0 ?_
  refine z_iconst (pc := 1) cx dX6_isPath_1 ?_
  refine z_icmp_ne (pc := 2) (tgt := 16) cx (by omega) (by decide) dX6_isPath_2 (fun c_2 => ?_) (fun c_2 => ?_)
  · skip
    refine z_il_3_0 (pc := 16) cx dX6_isPath_16 ?_
    refine z_il_3_1 (pc := 17) cx dX6_isPath_17 ?_
    refine z_icmp_eq (pc := 18) (tgt := 35) cx (by omega) (by decide) dX6_isPath_18 (fun c_18 => ?_) (fun c_18 => ?_)
    · skip
      refine z_iconst (pc := 35) cx dX6_isPath_35 ?_
      exact (z_retb (pc := 36) (b := ptB a b c) cx rx (by decide) (by decide) dX6_isPath_36 (by rw [ptB, if_neg c_2]; exact bzd (by omega)) ⟨rfl, rfl⟩)
    · skip
      refine z_il_3_0 (pc := 21) cx dX6_isPath_21 ?_
      refine z_il_3_2 (pc := 22) cx dX6_isPath_22 ?_
      refine z_icmp_eq (pc := 23) (tgt := 35) cx (by omega) (by decide) dX6_isPath_23 (fun c_23 => ?_) (fun c_23 => ?_)
      · skip
        refine z_iconst (pc := 35) cx dX6_isPath_35 ?_
        exact (z_retb (pc := 36) (b := ptB a b c) cx rx (by decide) (by decide) dX6_isPath_36 (by rw [ptB, if_neg c_2]; exact bzd (by omega)) ⟨rfl, rfl⟩)
      · skip
        refine z_il_3_1 (pc := 26) cx dX6_isPath_26 ?_
        refine z_il_3_2 (pc := 27) cx dX6_isPath_27 ?_
        refine z_icmp_eq (pc := 28) (tgt := 35) cx (by omega) (by decide) dX6_isPath_28 (fun c_28 => ?_) (fun c_28 => ?_)
        · skip
          refine z_iconst (pc := 35) cx dX6_isPath_35 ?_
          exact (z_retb (pc := 36) (b := ptB a b c) cx rx (by decide) (by decide) dX6_isPath_36 (by rw [ptB, if_neg c_2]; exact bzd (by omega)) ⟨rfl, rfl⟩)
        · skip
          refine z_iconst (pc := 31) cx dX6_isPath_31 ?_
          refine g_goto (pc := 32) (tgt := 36) cx (by decide) dX6_isPath_32 ?_
          exact (z_retb (pc := 36) (b := ptB a b c) cx rx (by decide) (by decide) dX6_isPath_36 (by rw [ptB, if_neg c_2]; exact bzd (by omega)) ⟨rfl, rfl⟩)
  · skip
    refine z_il_3_2 (pc := 5) cx dX6_isPath_5 ?_
    refine z_iconst (pc := 6) cx dX6_isPath_6 ?_
    refine z_icmp_ne (pc := 7) (tgt := 14) cx (by omega) (by decide) dX6_isPath_7 (fun c_7 => ?_) (fun c_7 => ?_)
    · skip
      refine z_iconst (pc := 14) cx dX6_isPath_14 ?_
      exact (z_retb (pc := 15) (b := ptB a b c) cx rx (by decide) (by decide) dX6_isPath_15 (by rw [ptB, if_pos c_2]; exact bzd (by omega)) ⟨rfl, rfl⟩)
    · skip
      refine z_iconst (pc := 10) cx dX6_isPath_10 ?_
      refine g_goto (pc := 11) (tgt := 15) cx (by decide) dX6_isPath_11 ?_
      exact (z_retb (pc := 15) (b := ptB a b c) cx rx (by decide) (by decide) dX6_isPath_15 (by rw [ptB, if_pos c_2]; exact bzd (by omega)) ⟨rfl, rfl⟩)

set_option maxRecDepth 100000 in
set_option maxHeartbeats 4000000 in
theorem c_X6_requireLink {lc : Launch} {dA : Nat → ClassId} {σ0 : hS} (hst : lc.stackTraces = false) {w : Int} (hw : -2147483648 ≤ w ∧ w ≤ 2147483647) : gM lc dA yX6_requireLink (.code yX6_requireLink cX6_requireLink 1 none) { frames := 6, cells := 1, slots := 6, locals := 96 } σ0 [.int (iI w)] (fun v σ9 => v = none ∧ (0 ≤ w ∧ w < 6) ∧ σ9 = σ0) (fun E σ9 => E = E_112 ∧ (¬ (0 ≤ w ∧ w < 6)) ∧ σ9 = σ0) := by
  refine gM_body (by decide +kernel) (by simp [Value.category]) (Nat.le_of_ble_eq_true rfl) (fun Γ hdA cx rx nx => ?_)
  subst hdA
  have cx : CX lc Γ cX6_requireLink RX6 1 { frames := 6, cells := 1, slots := 6, locals := 96 } := cx
  show G Γ σ0 0 0 0 [some (.int (iI w))] []
  refine z_il_1_0 (pc := 0) cx dX6_requireLink_0 ?_
  refine m_callS (pc := 1) cx lk_X6_203 (c_X6_isLink (by omega)) gy_X6_isLink ⟨⟨by decide, by decide⟩, by decide, by decide⟩ ⟨rfl, rfl⟩ rfl rfl (Nat.le_of_ble_eq_true rfl) dX6_requireLink_1 ?_
  show G Γ _ _ _ 4 _ (.int _ :: _)
  refine z_if_ne (pc := 4) (tgt := 17) cx (by have := bz_r (decide (0 ≤ w ∧ w < 6)); omega) (by decide) dX6_requireLink_4 (fun c_4 => ?_) (fun c_4 => ?_)
  · skip
    exact g_return (pc := 17) cx rx (by decide) (by decide) dX6_requireLink_17 ⟨rfl, bzd_n0.mp c_4, rfl⟩
  · skip
    exact g_throwS (pc := 7) cx hst rx nx rfl (cls := E_112) (text := T_206) (by simp [gExc]) (by decide +kernel) thr_112 dX6_requireLink_7 dX6_requireLink_10 dX6_requireLink_11 dX6_requireLink_13 dX6_requireLink_16 ⟨by decide, Nat.le_of_ble_eq_true rfl, by decide, by decide⟩ ⟨by decide, by decide⟩ (⟨rfl, bzd_0.mp c_4, rfl⟩)

set_option maxRecDepth 100000 in
set_option maxHeartbeats 4000000 in
theorem c_X6_requireLinkOrNone {lc : Launch} {dA : Nat → ClassId} {σ0 : hS} (hst : lc.stackTraces = false) {w : Int} (hw : -2147483648 ≤ w ∧ w ≤ 2147483647) : gM lc dA yX6_requireLinkOrNone (.code yX6_requireLinkOrNone cX6_requireLinkOrNone 1 none) { frames := 7, cells := 1, slots := 6, locals := 116 } σ0 [.int (iI w)] (fun v σ9 => v = none ∧ (w = -1 ∨ (0 ≤ w ∧ w < 6)) ∧ σ9 = σ0) (fun E σ9 => E = E_112 ∧ (¬ (w = -1 ∨ (0 ≤ w ∧ w < 6))) ∧ σ9 = σ0) := by
  refine gM_body (by decide +kernel) (by simp [Value.category]) (Nat.le_of_ble_eq_true rfl) (fun Γ hdA cx rx nx => ?_)
  subst hdA
  have cx : CX lc Γ cX6_requireLinkOrNone RX6 1 { frames := 7, cells := 1, slots := 6, locals := 116 } := cx
  show G Γ σ0 0 0 0 [some (.int (iI w))] []
  refine z_il_1_0 (pc := 0) cx dX6_requireLinkOrNone_0 ?_
  refine z_iconst (pc := 1) cx dX6_requireLinkOrNone_1 ?_
  refine z_icmp_eq (pc := 2) (tgt := 9) cx (by omega) (by decide) dX6_requireLinkOrNone_2 (fun c_2 => ?_) (fun c_2 => ?_)
  · skip
    exact g_return (pc := 9) cx rx (by decide) (by decide) dX6_requireLinkOrNone_9 ⟨rfl, by omega, rfl⟩
  · skip
    refine z_il_1_0 (pc := 5) cx dX6_requireLinkOrNone_5 ?_
    refine g_callS (pc := 6) cx lk_X6_40 (c_X6_requireLink hst (by omega)) gy_X6_requireLink ⟨⟨by decide, by decide⟩, by decide, by decide⟩ rfl (Nat.le_of_ble_eq_true rfl) rfl dX6_requireLinkOrNone_6 (fun E σ9 hX => ?_) (fun v9 σ9 hX => ?_)
    · obtain ⟨rfl, hbad, rfl⟩ := hX
      exact gx_out cx rx nx (by decide) (by decide) (⟨rfl, by omega, rfl⟩)
    obtain ⟨rfl, hgood6, rfl⟩ := hX
    show G Γ _ _ _ 9 _ _
    exact g_return (pc := 9) cx rx (by decide) (by decide) dX6_requireLinkOrNone_9 ⟨rfl, by omega, rfl⟩

set_option maxRecDepth 100000 in
set_option maxHeartbeats 4000000 in
theorem c_X6_requireFound {lc : Launch} {dA : Nat → ClassId} {cd : Nat → Nat} {σ0 : hS} {C : mS} {R : cR} (hst : lc.stackTraces = false) (hc : cat dA cd σ0 C R) {n : Int} {Q : Nat → mS} (hs : scO dA cd σ0 (R 0 4) n Q) : gM lc dA yX6_requireFound (.code yX6_requireFound cX6_requireFound 1 none) { frames := 6, cells := 1, slots := 6, locals := 96 } σ0 [.ref (cd 0)] (fun v σ9 => v = none ∧ (0 ≤ n) ∧ σ9 = σ0) (fun E σ9 => E = E_208 ∧ (n < 0) ∧ σ9 = σ0) := by
  refine gM_body (by decide +kernel) (by simp [Value.category]) (Nat.le_of_ble_eq_true rfl) (fun Γ hdA cx rx nx => ?_)
  subst hdA
  have cx : CX lc Γ cX6_requireFound RX6 1 { frames := 6, cells := 1, slots := 6, locals := 96 } := cx
  show G Γ σ0 0 0 0 [some (.ref (cd 0))] []
  have hF : cFr cd σ0 σ0 := cFr.rf
  rcases hs with ⟨hr, hn⟩ | ⟨a, hr, hn, hsc⟩
  · skip
    refine z_al_1_0 (pc := 0) cx dX6_requireFound_0 ?_
    refine g_getf (pc := 1) (v := .null) cx fl_X6_98 hc.x (by show some (va_rf (R 0 4)) = _; rw [hr]; rfl) dX6_requireFound_1 ?_
    refine g_ifnonnullN (pc := 4) cx dX6_requireFound_4 ?_
    exact g_throwN (pc := 7) cx hst rx nx rfl (cls := E_208) (text := T_210) (by simp [gExc]) (by decide +kernel) thr_208 dX6_requireFound_7 dX6_requireFound_10 dX6_requireFound_11 dX6_requireFound_13 dX6_requireFound_16 ⟨by decide, Nat.le_of_ble_eq_true rfl, by decide, by decide⟩ ⟨by decide, by decide⟩ (⟨rfl, by omega, rfl⟩)
  · skip
    refine z_al_1_0 (pc := 0) cx dX6_requireFound_0 ?_
    refine g_getf (pc := 1) (v := .ref a) cx fl_X6_98 hc.x (by show some (va_rf (R 0 4)) = _; rw [hr]; rfl) dX6_requireFound_1 ?_
    refine g_ifnonnull (pc := 4) (tgt := 17) cx (by decide) dX6_requireFound_4 ?_
    exact g_return (pc := 17) cx rx (by decide) (by decide) dX6_requireFound_17 ⟨rfl, hn.1, rfl⟩

set_option maxRecDepth 100000 in
set_option maxHeartbeats 4000000 in
theorem c_X6_talking {lc : Launch} {dA : Nat → ClassId} {cd : Nat → Nat} {σ0 : hS} {C : mS} {R : cR} (hc : cat dA cd σ0 C R) {n : Int} {Q : Nat → mS} (hs : scO dA cd σ0 (R 0 6) n Q) : gM lc dA yX6_talking (.code yX6_talking cX6_talking 1 (some .int)) { frames := 0, cells := 0, slots := 0, locals := 0 } σ0 [.ref (cd 0)] (sP σ0 (some (.int (iI (tlN n))))) nX := by
  refine gM_body (by decide +kernel) (by simp [Value.category]) (Nat.le_of_ble_eq_true rfl) (fun Γ hdA cx rx nx => ?_)
  subst hdA
  have cx : CX lc Γ cX6_talking RX6 1 { frames := 0, cells := 0, slots := 0, locals := 0 } := cx
  show G Γ σ0 0 0 0 [some (.ref (cd 0))] []
  have hF : cFr cd σ0 σ0 := cFr.rf
  rcases hs with ⟨hr, hn⟩ | ⟨a, hr, hn, hsc⟩
  · skip
    refine z_al_1_0 (pc := 0) cx dX6_talking_0 ?_
    refine g_getf (pc := 1) (v := .null) cx fl_X6_198 hc.x (by show some (va_rf (R 0 6)) = _; rw [hr]; rfl) dX6_talking_1 ?_
    refine g_ifnonnullN (pc := 4) cx dX6_talking_4 ?_
    refine z_iconst (pc := 7) cx dX6_talking_7 ?_
    refine g_goto (pc := 8) (tgt := 19) cx (by decide) dX6_talking_8 ?_
    exact z_ret (pc := 19) cx rx (by decide) (by decide) dX6_talking_19 ⟨by unfold tlN; first | (rw [if_pos (by omega)]; done) | rw [if_neg (by omega)], rfl⟩
  · skip
    obtain ⟨arr, A, s0, s1, s2⟩ := id hsc
    refine z_al_1_0 (pc := 0) cx dX6_talking_0 ?_
    refine g_getf (pc := 1) (v := .ref a) cx fl_X6_198 hc.x (by show some (va_rf (R 0 6)) = _; rw [hr]; rfl) dX6_talking_1 ?_
    refine g_ifnonnull (pc := 4) (tgt := 11) cx (by decide) dX6_talking_4 ?_
    refine z_al_1_0 (pc := 11) cx dX6_talking_11 ?_
    refine g_getf (pc := 12) (v := .ref a) cx fl_X6_198 hc.x (by show some (va_rf (R 0 6)) = _; rw [hr]; rfl) dX6_talking_12 ?_
    refine g_getf (pc := 15) cx fl_X6_108 s0.1 rfl dX6_talking_15 ?_
    refine g_len (pc := 18) (t := 2) (v := iI n) cx s1.1 rfl (by rw [← Int32.ofInt_eq_ofNat]; show iI _ = _; rw [Int.toNat_of_nonneg hn.1]) dX6_talking_18 ?_
    exact z_ret (pc := 19) cx rx (by decide) (by decide) dX6_talking_19 ⟨by unfold tlN; first | (rw [if_pos (by omega)]; done) | rw [if_neg (by omega)], rfl⟩

set_option maxRecDepth 100000 in
set_option maxHeartbeats 4000000 in
theorem c_X6_requireInForce {lc : Launch} {dA : Nat → ClassId} {cd : Nat → Nat} {σ0 : hS} {C : mS} {R : cR} (hst : lc.stackTraces = false) (hc : cat dA cd σ0 C R) {n i : Int} {Q : Nat → mS} (hs : scO dA cd σ0 (R 0 6) n Q) (hi : -2147483648 ≤ i ∧ i ≤ 2147483647) : gM lc dA yX6_requireInForce (.code yX6_requireInForce cX6_requireInForce 2 none) { frames := 6, cells := 1, slots := 6, locals := 96 } σ0 [.ref (cd 0), .int (iI i)] (fun v σ9 => v = none ∧ (0 ≤ i ∧ i < n) ∧ σ9 = σ0) (fun E σ9 => E = E_112 ∧ (¬ (0 ≤ i ∧ i < n)) ∧ σ9 = σ0) := by
  refine gM_body (by decide +kernel) (by simp [Value.category]) (Nat.le_of_ble_eq_true rfl) (fun Γ hdA cx rx nx => ?_)
  subst hdA
  have cx : CX lc Γ cX6_requireInForce RX6 2 { frames := 6, cells := 1, slots := 6, locals := 96 } := cx
  show G Γ σ0 0 0 0 [some (.ref (cd 0)), some (.int (iI i))] []
  have hF : cFr cd σ0 σ0 := cFr.rf
  have hnr := hs.r
  have htl : tlN n = if n < 0 then 0 else n := rfl
  refine z_il_2_1 (pc := 0) cx dX6_requireInForce_0 ?_
  refine z_if_lt (pc := 1) (tgt := 12) cx (by omega) (by decide) dX6_requireInForce_1 (fun c_1 => ?_) (fun c_1 => ?_)
  · skip
    exact g_throwS (pc := 12) cx hst rx nx rfl (cls := E_112) (text := T_217) (by simp [gExc]) (by decide +kernel) thr_112 dX6_requireInForce_12 dX6_requireInForce_15 dX6_requireInForce_16 dX6_requireInForce_18 dX6_requireInForce_21 ⟨by decide, Nat.le_of_ble_eq_true rfl, by decide, by decide⟩ ⟨by decide, by decide⟩ (⟨rfl, by
  first
  | omega
  | (rw [htl] at c_9; split at c_9 <;> omega), rfl⟩)
  · skip
    refine z_il_2_1 (pc := 4) cx dX6_requireInForce_4 ?_
    refine z_al_2_0 (pc := 5) cx dX6_requireInForce_5 ?_
    refine s_callV (pc := 6) cx lk_X6_213 (c_X6_talking hc hs) hc.x rfl gy_X6_talking ⟨⟨by decide, by decide⟩, by decide, by decide⟩ ⟨rfl, rfl⟩ rfl rfl (Nat.le_of_ble_eq_true rfl) dX6_requireInForce_6 ?_
    show G Γ _ _ _ 9 _ (.int _ :: _)
    refine z_icmp_lt (pc := 9) (tgt := 22) cx (by rw [htl]; split <;> omega) (by decide) dX6_requireInForce_9 (fun c_9 => ?_) (fun c_9 => ?_)
    · skip
      exact g_return (pc := 22) cx rx (by decide) (by decide) dX6_requireInForce_22 ⟨rfl, by rw [htl] at c_9; split at c_9 <;> omega, rfl⟩
    · skip
      exact g_throwS (pc := 12) cx hst rx nx rfl (cls := E_112) (text := T_217) (by simp [gExc]) (by decide +kernel) thr_112 dX6_requireInForce_12 dX6_requireInForce_15 dX6_requireInForce_16 dX6_requireInForce_18 dX6_requireInForce_21 ⟨by decide, Nat.le_of_ble_eq_true rfl, by decide, by decide⟩ ⟨by decide, by decide⟩ (⟨rfl, by
  first
  | omega
  | (rw [htl] at c_9; split at c_9 <;> omega), rfl⟩)

set_option maxRecDepth 100000 in
set_option maxHeartbeats 4000000 in
theorem c_X6_streamsOf {lc : Launch} {dA : Nat → ClassId} {cd : Nat → Nat} {σ0 : hS} {r : Option Nat} {n : Int} {Q : Nat → mS} (hs : scO dA cd σ0 r n Q) : gM lc dA yX6_streamsOf (.code yX6_streamsOf cX6_streamsOf 1 (some .int)) { frames := 0, cells := 0, slots := 0, locals := 0 } σ0 [va_rf r] (sP σ0 (some (.int (iI n)))) nX := by
  refine gM_body (by decide +kernel) (by cases r <;> simp [Value.category, va_rf]) (Nat.le_of_ble_eq_true rfl) (fun Γ hdA cx rx nx => ?_)
  subst hdA
  have cx : CX lc Γ cX6_streamsOf RX6 1 { frames := 0, cells := 0, slots := 0, locals := 0 } := cx
  show G Γ σ0 0 0 0 [some (va_rf r)] []
  rcases hs with ⟨rfl, rfl⟩ | ⟨a, rfl, hn, hsc⟩
  · skip
    refine g_aload_nN (pc := 0) (q := 0) (i := 0) cx rfl rfl dX6_streamsOf_0 ?_
    refine g_ifnonnullN (pc := 1) cx dX6_streamsOf_1 ?_
    refine z_iconst (pc := 4) cx dX6_streamsOf_4 ?_
    refine g_goto (pc := 5) (tgt := 13) cx (by decide) dX6_streamsOf_5 ?_
    exact z_ret (pc := 13) cx rx (by decide) (by decide) dX6_streamsOf_13 ⟨rfl, rfl⟩
  · skip
    obtain ⟨arr, A, s0, s1, s2⟩ := id hsc
    show G Γ σ0 0 0 0 [some (.ref a)] []
    refine z_al_1_0 (pc := 0) cx dX6_streamsOf_0 ?_
    refine g_ifnonnull (pc := 1) (tgt := 8) cx (by decide) dX6_streamsOf_1 ?_
    refine z_al_1_0 (pc := 8) cx dX6_streamsOf_8 ?_
    refine g_getf (pc := 9) cx fl_X6_108 s0.1 rfl dX6_streamsOf_9 ?_
    refine g_len (pc := 12) (t := 2) (v := iI n) cx s1.1 rfl (by rw [← Int32.ofInt_eq_ofNat]; show iI _ = _; rw [Int.toNat_of_nonneg hn.1]) dX6_streamsOf_12 ?_
    exact z_ret (pc := 13) cx rx (by decide) (by decide) dX6_streamsOf_13 ⟨rfl, rfl⟩
