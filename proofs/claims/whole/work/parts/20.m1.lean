/-! contracts (walks laid by program) -/
set_option maxRecDepth 100000 in
set_option maxHeartbeats 4000000 in
theorem c_X7_isLink {lc : Launch} {dA : Nat → ClassId} {σ0 : hS} {a : Int} (ha : -2147483648 ≤ a ∧ a ≤ 2147483647) : gM lc dA yX7_isLink (.code yX7_isLink cX7_isLink 1 (some .boolean)) { frames := 0, cells := 0, slots := 0, locals := 0 } σ0 [.int (iI a)] (sP σ0 (some (.int (iI (bz (decide (0 ≤ a ∧ a < 6))))))) nX := by
  refine gM_body (by decide +kernel) (by simp [Value.category]) (Nat.le_of_ble_eq_true rfl) (fun Γ hdA cx rx nx => ?_)
  subst hdA
  have cx : CX lc Γ cX7_isLink RX7 1 { frames := 0, cells := 0, slots := 0, locals := 0 } := cx
  show G Γ σ0 0 0 0 [some (.int (iI a))] []
  refine z_il_1_0 (pc := 0) cx dX7_isLink_0 ?_
  refine z_if_lt (pc := 1) (tgt := 14) cx (by omega) (by decide) dX7_isLink_1 (fun c_1 => ?_) (fun c_1 => ?_)
  · skip
    refine z_iconst (pc := 14) cx dX7_isLink_14 ?_
    exact (z_retb (pc := 15) (b := decide (0 ≤ a ∧ a < 6)) cx rx (by decide) (by decide) dX7_isLink_15 (by simp only [bz, decide_eq_true_eq]; split <;> omega) ⟨rfl, rfl⟩)
  · skip
    refine z_il_1_0 (pc := 4) cx dX7_isLink_4 ?_
    refine z_bipush (pc := 5) cx rfl dX7_isLink_5 ?_
    refine z_icmp_ge (pc := 7) (tgt := 14) cx (by omega) (by decide) dX7_isLink_7 (fun c_7 => ?_) (fun c_7 => ?_)
    · skip
      refine z_iconst (pc := 14) cx dX7_isLink_14 ?_
      exact (z_retb (pc := 15) (b := decide (0 ≤ a ∧ a < 6)) cx rx (by decide) (by decide) dX7_isLink_15 (by simp only [bz, decide_eq_true_eq]; split <;> omega) ⟨rfl, rfl⟩)
    · skip
      refine z_iconst (pc := 10) cx dX7_isLink_10 ?_
      refine g_goto (pc := 11) (tgt := 15) cx (by decide) dX7_isLink_11 ?_
      exact (z_retb (pc := 15) (b := decide (0 ≤ a ∧ a < 6)) cx rx (by decide) (by decide) dX7_isLink_15 (by simp only [bz, decide_eq_true_eq]; split <;> omega) ⟨rfl, rfl⟩)

set_option maxRecDepth 100000 in
set_option maxHeartbeats 4000000 in
theorem c_X7_thrown {lc : Launch} {dA : Nat → ClassId} {ad : Nat → Nat} {σ0 : hS} {h : Nat} {S : mS} (hm : mat dA ad σ0 h S) : gM lc dA yX7_thrown (.code yX7_thrown cX7_thrown 1 (some .int)) { frames := 0, cells := 0, slots := 0, locals := 0 } σ0 [.ref h] (mP dA ad h σ0 (some (.int (iI (S 0 0)))) (S)) nX := by
  refine gM_body (by decide +kernel) (by simp [Value.category]) (Nat.le_of_ble_eq_true rfl) (fun Γ hdA cx rx nx => ?_)
  subst hdA
  have cx : CX lc Γ cX7_thrown RX7 1 { frames := 0, cells := 0, slots := 0, locals := 0 } := cx
  show G Γ σ0 0 0 0 [some (.ref h)] []
  have hF : mFr ad h σ0 σ0 := mFr.rf
  refine z_al_1_0 (pc := 0) cx dX7_thrown_0 ?_
  refine m_get (pc := 1) cx hm fl_X7_89 rfl dX7_thrown_1 ?_
  exact z_ret (pc := 4) cx rx (by decide) (by decide) dX7_thrown_4 ⟨rfl, hm, hF⟩

set_option maxRecDepth 100000 in
set_option maxHeartbeats 4000000 in
theorem c_X7_modulo {lc : Launch} {dA : Nat → ClassId} {σ0 : hS} {a n : Int} (ha : (-1000000000 ≤ a ∧ a ≤ 1000000000) ∧ (0 < n ∧ n ≤ 1000000)) : gM lc dA yX7_modulo (.code yX7_modulo cX7_modulo 2 (some .int)) { frames := 0, cells := 0, slots := 0, locals := 0 } σ0 [.int (iI a), .int (iI n)] (sP σ0 (some (.int (iI (a % n))))) nX := by
  refine gM_body (by decide +kernel) (by simp [Value.category]) (Nat.le_of_ble_eq_true rfl) (fun Γ hdA cx rx nx => ?_)
  subst hdA
  have cx : CX lc Γ cX7_modulo RX7 2 { frames := 0, cells := 0, slots := 0, locals := 0 } := cx
  show G Γ σ0 0 0 0 [some (.int (iI a)), some (.int (iI n))] []
  have hr := tmod_r a n ha.2.1
  refine z_il_2_0 (pc := 0) cx dX7_modulo_0 ?_
  refine z_il_2_1 (pc := 1) cx dX7_modulo_1 ?_
  refine z_irem (pc := 2) cx (by omega) dX7_modulo_2 ?_
  refine z_il_2_1 (pc := 3) cx dX7_modulo_3 ?_
  refine z_iadd (pc := 4) cx dX7_modulo_4 ?_
  refine z_il_2_1 (pc := 5) cx dX7_modulo_5 ?_
  refine z_irem (pc := 6) cx (by omega) dX7_modulo_6 ?_
  rw [tmod_mod ha.2.1]
  exact z_ret (pc := 7) cx rx (by decide) (by decide) dX7_modulo_7 ⟨rfl, rfl⟩

set_option maxRecDepth 100000 in
set_option maxHeartbeats 4000000 in
theorem c_X7_meet {lc : Launch} {dA : Nat → ClassId} {σ0 : hS} {a n p b m q : Int} (ha : ((-10000000 ≤ a ∧ a ≤ 10000000) ∧ (-1000000 ≤ n ∧ n ≤ 1000000) ∧ (0 < p ∧ p ≤ 1000000)) ∧ (-10000000 ≤ b ∧ b ≤ 10000000) ∧ (-1000000 ≤ m ∧ m ≤ 1000000) ∧ (0 < q ∧ q ≤ 1000000)) : gM lc dA yX7_meet (.code yX7_meet cX7_meet 8 (some .boolean)) { frames := 1, cells := 0, slots := 0, locals := 21 } σ0 [.int (iI a), .int (iI n), .int (iI p), .int (iI b), .int (iI m), .int (iI q)] (sP σ0 (some (.int (iI (bz (meetF a n p b m q)))))) nX := by
  refine gM_body (by decide +kernel) (by simp [Value.category]) (Nat.le_of_ble_eq_true rfl) (fun Γ hdA cx rx nx => ?_)
  subst hdA
  have cx : CX lc Γ cX7_meet RX7 8 { frames := 1, cells := 0, slots := 0, locals := 21 } := cx
  show G Γ σ0 0 0 0 [some (.int (iI a)), some (.int (iI n)), some (.int (iI p)), some (.int (iI b)), some (.int (iI m)), some (.int (iI q)), none, none] []
  have J12 : ∀ e : Int, e = (if p < q then p else q) → G Γ σ0 0 0 12 [some (.int (iI (a))), some (.int (iI (n))), some (.int (iI (p))), some (.int (iI (b))), some (.int (iI (m))), some (.int (iI (q))), none, none] [.int (iI e)] := by
    intro e he
    have hr1 := Int.emod_nonneg (b - a) (show e ≠ 0 by split at he <;> omega)
    have hr2 := Int.emod_lt_of_pos (b - a) (show 0 < e by split at he <;> omega)
    have hr3 := Int.emod_nonneg (a - b) (show e ≠ 0 by split at he <;> omega)
    have hr4 := Int.emod_lt_of_pos (a - b) (show 0 < e by split at he <;> omega)
    have he2 : 0 < e ∧ e ≤ 1000000 := by split at he <;> omega
    refine z_is_8_6 (pc := 12) cx dX7_meet_12 ?_
    refine z_il_8_3 (pc := 14) cx dX7_meet_14 ?_
    refine z_il_8_0 (pc := 15) cx dX7_meet_15 ?_
    refine z_isub (pc := 16) cx dX7_meet_16 ?_
    refine z_il_8_6 (pc := 17) cx dX7_meet_17 ?_
    refine m_callS (pc := 19) cx lk_X7_104 (c_X7_modulo (by omega)) gy_X7_modulo ⟨⟨by decide, by decide⟩, by decide, by decide⟩ ⟨rfl, rfl⟩ rfl rfl (Nat.le_of_ble_eq_true rfl) dX7_meet_19 ?_
    show G Γ _ _ _ 22 _ (.int (iI _) :: _)
    refine z_is_8_7 (pc := 22) cx dX7_meet_22 ?_
    refine z_il_8_7 (pc := 24) cx dX7_meet_24 ?_
    refine z_il_8_1 (pc := 26) cx dX7_meet_26 ?_
    refine z_icmp_lt (pc := 27) (tgt := 43) cx (by omega) (by decide) dX7_meet_27 (fun c_27 => ?_) (fun c_27 => ?_)
    · skip
      refine z_iconst (pc := 43) cx dX7_meet_43 ?_
      refine g_goto (pc := 44) (tgt := 48) cx (by decide) dX7_meet_44 ?_
      exact (z_retb (pc := 48) (b := meetF a n p b m q) cx rx (by decide) (by decide) dX7_meet_48 (by rw [meetF, ← he]; simp only [bz, Bool.or_eq_true, decide_eq_true_eq]; split <;> omega) ⟨rfl, rfl⟩)
    · skip
      refine z_il_8_0 (pc := 30) cx dX7_meet_30 ?_
      refine z_il_8_3 (pc := 31) cx dX7_meet_31 ?_
      refine z_isub (pc := 32) cx dX7_meet_32 ?_
      refine z_il_8_6 (pc := 33) cx dX7_meet_33 ?_
      refine m_callS (pc := 35) cx lk_X7_104 (c_X7_modulo (by omega)) gy_X7_modulo ⟨⟨by decide, by decide⟩, by decide, by decide⟩ ⟨rfl, rfl⟩ rfl rfl (Nat.le_of_ble_eq_true rfl) dX7_meet_35 ?_
      show G Γ _ _ _ 38 _ (.int (iI _) :: _)
      refine z_il_8_4 (pc := 38) cx dX7_meet_38 ?_
      refine z_icmp_ge (pc := 40) (tgt := 47) cx (by omega) (by decide) dX7_meet_40 (fun c_40 => ?_) (fun c_40 => ?_)
      · skip
        refine z_iconst (pc := 47) cx dX7_meet_47 ?_
        exact (z_retb (pc := 48) (b := meetF a n p b m q) cx rx (by decide) (by decide) dX7_meet_48 (by rw [meetF, ← he]; simp only [bz, Bool.or_eq_true, decide_eq_true_eq]; split <;> omega) ⟨rfl, rfl⟩)
      · skip
        refine z_iconst (pc := 43) cx dX7_meet_43 ?_
        refine g_goto (pc := 44) (tgt := 48) cx (by decide) dX7_meet_44 ?_
        exact (z_retb (pc := 48) (b := meetF a n p b m q) cx rx (by decide) (by decide) dX7_meet_48 (by rw [meetF, ← he]; simp only [bz, Bool.or_eq_true, decide_eq_true_eq]; split <;> omega) ⟨rfl, rfl⟩)
  refine z_il_8_2 (pc := 0) cx dX7_meet_0 ?_
  refine z_il_8_5 (pc := 1) cx dX7_meet_1 ?_
  refine z_icmp_ge (pc := 3) (tgt := 10) cx (by omega) (by decide) dX7_meet_3 (fun c_3 => ?_) (fun c_3 => ?_)
  · skip
    refine z_il_8_5 (pc := 10) cx dX7_meet_10 ?_
    exact J12 _ (by split <;> omega)
  · skip
    refine z_il_8_2 (pc := 6) cx dX7_meet_6 ?_
    refine g_goto (pc := 7) (tgt := 12) cx (by decide) dX7_meet_7 ?_
    exact J12 _ (by split <;> omega)

set_option maxRecDepth 100000 in
set_option maxHeartbeats 4000000 in
theorem c_X7_begins {lc : Launch} {dA : Nat → ClassId} {ad : Nat → Nat} {σ0 : hS} {h : Nat} {S : mS} (hm : mat dA ad σ0 h S) {i : Int} {j : Nat} (hi : 0 ≤ i ∧ i < 5) (hj : j ≤ 3) (hp : ∀ q : Nat, q < j → 0 ≤ S 6 (3 * i + (q : Int)) ∧ S 6 (3 * i + (q : Int)) < 6) : gM lc dA yX7_begins (.code yX7_begins cX7_begins 5 (some .int)) { frames := 0, cells := 0, slots := 0, locals := 0 } σ0 [.ref h, .int (iI i), .int (iI (j : Int))] (mP dA ad h σ0 (some (.int (iI (begF S i j)))) (S)) nX := by
  refine gM_body (by decide +kernel) (by simp [Value.category]) (Nat.le_of_ble_eq_true rfl) (fun Γ hdA cx rx nx => ?_)
  subst hdA
  have cx : CX lc Γ cX7_begins RX7 5 { frames := 0, cells := 0, slots := 0, locals := 0 } := cx
  show G Γ σ0 0 0 0 [some (.ref h), some (.int (iI i)), some (.int (iI (j : Int))), none, none] []
  have hF : mFr ad h σ0 σ0 := mFr.rf
  refine z_iconst (pc := 0) cx dX7_begins_0 ?_
  refine z_is_5_3 (pc := 1) cx dX7_begins_1 ?_
  refine z_iconst (pc := 2) cx dX7_begins_2 ?_
  refine z_is_5_4 (pc := 3) cx dX7_begins_3 ?_
  have J5 : ∀ (n k : Nat) (σ : hS), k + n = j → mat (gdA Γ) ad σ h S → mFr ad h σ0 σ → G Γ σ 0 0 5 [some (.ref h), some (.int (iI (i))), some (.int (iI ((j : Int)))), some (.int (iI (begF S i k))), some (.int (iI ((k : Int))))] [] := by
    intro n
    induction n using Nat.strongRecOn with
    | _ n ih =>
    intro k σ hn hm hF
    refine z_il_5_4 (pc := 5) cx dX7_begins_5 ?_
    refine z_il_5_2 (pc := 7) cx dX7_begins_7 ?_
    refine z_icmp_ge (pc := 8) (tgt := 45) cx (by omega) (by decide) dX7_begins_8 (fun c_8 => ?_) (fun c_8 => ?_)
    · obtain rfl : k = j := by omega
      refine z_il_5_3 (pc := 45) cx dX7_begins_45 ?_
      exact z_ret (pc := 46) cx rx (by decide) (by decide) dX7_begins_46 ⟨rfl, hm, hF⟩
    · skip
      refine z_il_5_3 (pc := 11) cx dX7_begins_11 ?_
      refine z_al_5_0 (pc := 12) cx dX7_begins_12 ?_
      refine m_get (pc := 13) cx hm fl_X7_16 rfl dX7_begins_13 ?_
      refine z_il_5_1 (pc := 16) cx dX7_begins_16 ?_
      refine m_iald (pc := 17) (k := 4) (L := 5) cx hm ⟨rfl, rfl, by decide, by decide⟩ dX7_begins_17 (by omega) ?_
      refine z_iadd (pc := 18) cx dX7_begins_18 ?_
      refine z_al_5_0 (pc := 19) cx dX7_begins_19 ?_
      refine m_get (pc := 20) cx hm fl_X7_7 rfl dX7_begins_20 ?_
      refine z_al_5_0 (pc := 23) cx dX7_begins_23 ?_
      refine m_get (pc := 24) cx hm fl_X7_22 rfl dX7_begins_24 ?_
      refine z_iconst (pc := 27) cx dX7_begins_27 ?_
      refine z_il_5_1 (pc := 28) cx dX7_begins_28 ?_
      refine z_imul (pc := 29) cx dX7_begins_29 ?_
      refine z_il_5_4 (pc := 30) cx dX7_begins_30 ?_
      refine z_iadd (pc := 32) cx dX7_begins_32 ?_
      refine m_iald (pc := 33) (k := 6) (L := 15) cx hm ⟨rfl, rfl, by decide, by decide⟩ dX7_begins_33 (by omega) ?_
      refine m_iald (pc := 34) (k := 1) (L := 6) cx hm ⟨rfl, rfl, by decide, by decide⟩ dX7_begins_34 (by have := hp k (by omega); omega) ?_
      refine z_iadd (pc := 35) cx dX7_begins_35 ?_
      refine z_iconst (pc := 36) cx dX7_begins_36 ?_
      refine z_iadd (pc := 37) cx dX7_begins_37 ?_
      refine z_is_5_3 (pc := 38) cx dX7_begins_38 ?_
      refine z_ii_5_4 (pc := 39) cx dX7_begins_39 ?_
      refine g_goto (pc := 42) (tgt := 5) cx (by decide) dX7_begins_42 ?_
      exact ih (n - 1) (by omega) (k + 1) σ (by omega) hm hF
  exact J5 j 0 σ0 (by omega) hm hF
