/-! contracts (walks laid by program) -/
set_option maxRecDepth 100000 in
set_option maxHeartbeats 4000000 in
theorem c_X7_linkOf {lc : Launch} {dA : Nat → ClassId} {ad : Nat → Nat} {σ0 : hS} {h : Nat} {S : mS} (hm : mat dA ad σ0 h S) {i : Int} {j : Nat} (hi : 0 ≤ i ∧ i < 5) (hj : j ≤ 2) : gM lc dA yX7_linkOf (.code yX7_linkOf cX7_linkOf 3 (some .int)) { frames := 0, cells := 0, slots := 0, locals := 0 } σ0 [.ref h, .int (iI i), .int (iI (j : Int))] (mP dA ad h σ0 (some (.int (iI (S 11 (30 + 3 * i + (j : Int)))))) (S)) nX := by
  refine gM_body (by decide +kernel) (by simp [Value.category]) (Nat.le_of_ble_eq_true rfl) (fun Γ hdA cx rx nx => ?_)
  subst hdA
  have cx : CX lc Γ cX7_linkOf RX7 3 { frames := 0, cells := 0, slots := 0, locals := 0 } := cx
  show G Γ σ0 0 0 0 [some (.ref h), some (.int (iI i)), some (.int (iI (j : Int)))] []
  have hF : mFr ad h σ0 σ0 := mFr.rf
  refine z_al_3_0 (pc := 0) cx dX7_linkOf_0 ?_
  refine m_get (pc := 1) cx hm fl_X7_37 rfl dX7_linkOf_1 ?_
  refine z_bipush (pc := 4) cx rfl dX7_linkOf_4 ?_
  refine z_iconst (pc := 6) cx dX7_linkOf_6 ?_
  refine z_il_3_1 (pc := 7) cx dX7_linkOf_7 ?_
  refine z_imul (pc := 8) cx dX7_linkOf_8 ?_
  refine z_iadd (pc := 9) cx dX7_linkOf_9 ?_
  refine z_il_3_2 (pc := 10) cx dX7_linkOf_10 ?_
  refine z_iadd (pc := 11) cx dX7_linkOf_11 ?_
  refine m_iald (pc := 12) (k := 11) (L := 45) cx hm ⟨rfl, rfl, by decide, by decide⟩ dX7_linkOf_12 (by omega) ?_
  exact z_ret (pc := 13) cx rx (by decide) (by decide) dX7_linkOf_13 ⟨rfl, hm, hF⟩

set_option maxRecDepth 100000 in
set_option maxHeartbeats 4000000 in
theorem c_X7_beginOf {lc : Launch} {dA : Nat → ClassId} {ad : Nat → Nat} {σ0 : hS} {h : Nat} {S : mS} (hm : mat dA ad σ0 h S) {f : Int} {j : Nat} (hf : mFm S f) (hj : j ≤ 3) : gM lc dA yX7_beginOf (.code yX7_beginOf cX7_beginOf 3 (some .int)) { frames := 1, cells := 0, slots := 0, locals := 25 } σ0 [.ref h, .int (iI f), .int (iI (j : Int))] (mP dA ad h σ0 (some (.int (iI (begO S f j)))) (S)) nX := by
  refine gM_body (by decide +kernel) (by simp [Value.category]) (Nat.le_of_ble_eq_true rfl) (fun Γ hdA cx rx nx => ?_)
  subst hdA
  have cx : CX lc Γ cX7_beginOf RX7 3 { frames := 1, cells := 0, slots := 0, locals := 25 } := cx
  show G Γ σ0 0 0 0 [some (.ref h), some (.int (iI f)), some (.int (iI (j : Int)))] []
  have hF : mFr ad h σ0 σ0 := mFr.rf
  obtain ⟨f1, f2, f3, f4⟩ := id hf
  refine z_al_3_0 (pc := 0) cx dX7_beginOf_0 ?_
  refine m_get (pc := 1) cx hm fl_X7_71 rfl dX7_beginOf_1 ?_
  refine z_il_3_1 (pc := 4) cx dX7_beginOf_4 ?_
  refine m_iald (pc := 5) (k := 25) (L := 64) cx hm ⟨rfl, rfl, by decide, by decide⟩ dX7_beginOf_5 (by omega) ?_
  refine z_al_3_0 (pc := 6) cx dX7_beginOf_6 ?_
  refine z_iconst (pc := 7) cx dX7_beginOf_7 ?_
  refine z_al_3_0 (pc := 8) cx dX7_beginOf_8 ?_
  refine m_get (pc := 9) cx hm fl_X7_68 rfl dX7_beginOf_9 ?_
  refine z_il_3_1 (pc := 12) cx dX7_beginOf_12 ?_
  refine m_iald (pc := 13) (k := 24) (L := 64) cx hm ⟨rfl, rfl, by decide, by decide⟩ dX7_beginOf_13 (by omega) ?_
  refine z_il_3_2 (pc := 14) cx dX7_beginOf_14 ?_
  refine m_callV (pc := 15) cx lk_X7_127 (c_X7_beginsIn hm (k := 2) (p := 10 + S 24 f) (q := 30 + 3 * S 24 f) (j := j) (by omega) f2 hj (by omega) (by omega)) hm hF rfl gy_X7_beginsIn ⟨⟨by decide, by decide⟩, by decide, by decide⟩ ⟨rfl, rfl⟩ rfl rfl (Nat.le_of_ble_eq_true rfl) dX7_beginOf_15 ?_
  intro σ hm hF
  show G Γ _ _ _ 18 _ (.int (iI _) :: _)
  refine z_iadd (pc := 18) cx dX7_beginOf_18 ?_
  exact z_ret (pc := 19) cx rx (by decide) (by decide) dX7_beginOf_19 ⟨rfl, hm, hF⟩

set_option maxRecDepth 100000 in
set_option maxHeartbeats 4000000 in
theorem c_X7_throughOf {lc : Launch} {dA : Nat → ClassId} {ad : Nat → Nat} {σ0 : hS} {h : Nat} {S : mS} (hm : mat dA ad σ0 h S) {f : Int} {j : Nat} (hf : mFm S f) (hj : j ≤ 2) : gM lc dA yX7_throughOf (.code yX7_throughOf cX7_throughOf 4 (some .int)) { frames := 2, cells := 0, slots := 0, locals := 47 } σ0 [.ref h, .int (iI f), .int (iI (j : Int))] (mP dA ad h σ0 (some (.int (iI (thrO S f j)))) (S)) nX := by
  refine gM_body (by decide +kernel) (by simp [Value.category]) (Nat.le_of_ble_eq_true rfl) (fun Γ hdA cx rx nx => ?_)
  subst hdA
  have cx : CX lc Γ cX7_throughOf RX7 4 { frames := 2, cells := 0, slots := 0, locals := 47 } := cx
  show G Γ σ0 0 0 0 [some (.ref h), some (.int (iI f)), some (.int (iI (j : Int))), none] []
  have hF : mFr ad h σ0 σ0 := mFr.rf
  obtain ⟨f1, f2, f3, f4⟩ := id hf
  refine z_al_4_0 (pc := 0) cx dX7_throughOf_0 ?_
  refine m_get (pc := 1) cx hm fl_X7_68 rfl dX7_throughOf_1 ?_
  refine z_il_4_1 (pc := 4) cx dX7_throughOf_4 ?_
  refine m_iald (pc := 5) (k := 24) (L := 64) cx hm ⟨rfl, rfl, by decide, by decide⟩ dX7_throughOf_5 (by omega) ?_
  refine z_is_4_3 (pc := 6) cx dX7_throughOf_6 ?_
  refine z_al_4_0 (pc := 7) cx dX7_throughOf_7 ?_
  refine z_il_4_1 (pc := 8) cx dX7_throughOf_8 ?_
  refine z_il_4_2 (pc := 9) cx dX7_throughOf_9 ?_
  refine m_callV (pc := 10) cx lk_X7_144 (c_X7_beginOf hm hf (j := j) (by omega)) hm hF rfl gy_X7_beginOf ⟨⟨by decide, by decide⟩, by decide, by decide⟩ ⟨rfl, rfl⟩ rfl rfl (Nat.le_of_ble_eq_true rfl) dX7_throughOf_10 ?_
  intro σ hm hF
  show G Γ _ _ _ 13 _ (.int (iI _) :: _)
  refine z_al_4_0 (pc := 13) cx dX7_throughOf_13 ?_
  refine m_get (pc := 14) cx hm fl_X7_31 rfl dX7_throughOf_14 ?_
  refine z_bipush (pc := 17) cx rfl dX7_throughOf_17 ?_
  refine z_il_4_3 (pc := 19) cx dX7_throughOf_19 ?_
  refine z_iadd (pc := 20) cx dX7_throughOf_20 ?_
  refine m_iald (pc := 21) (k := 9) (L := 15) cx hm ⟨rfl, rfl, by decide, by decide⟩ dX7_throughOf_21 (by omega) ?_
  refine z_iadd (pc := 22) cx dX7_throughOf_22 ?_
  refine z_al_4_0 (pc := 23) cx dX7_throughOf_23 ?_
  refine m_get (pc := 24) cx hm fl_X7_40 rfl dX7_throughOf_24 ?_
  refine z_bipush (pc := 27) cx rfl dX7_throughOf_27 ?_
  refine z_iconst (pc := 29) cx dX7_throughOf_29 ?_
  refine z_il_4_3 (pc := 30) cx dX7_throughOf_30 ?_
  refine z_imul (pc := 31) cx dX7_throughOf_31 ?_
  refine z_iadd (pc := 32) cx dX7_throughOf_32 ?_
  refine z_il_4_2 (pc := 33) cx dX7_throughOf_33 ?_
  refine z_iadd (pc := 34) cx dX7_throughOf_34 ?_
  refine m_iald (pc := 35) (k := 12) (L := 45) cx hm ⟨rfl, rfl, by decide, by decide⟩ dX7_throughOf_35 (by omega) ?_
  refine z_iadd (pc := 36) cx dX7_throughOf_36 ?_
  exact z_ret (pc := 37) cx rx (by decide) (by decide) dX7_throughOf_37 ⟨rfl, hm, hF⟩

set_option maxRecDepth 100000 in
set_option maxHeartbeats 4000000 in
theorem c_X7_lastOf {lc : Launch} {dA : Nat → ClassId} {ad : Nat → Nat} {σ0 : hS} {h : Nat} {S : mS} (hm : mat dA ad σ0 h S) {i : Int} (hi : 0 ≤ i ∧ i < 5) (hs : mSi S (10 + i) (30 + 3 * i)) : gM lc dA yX7_lastOf (.code yX7_lastOf cX7_lastOf 2 (some .int)) { frames := 1, cells := 0, slots := 0, locals := 22 } σ0 [.ref h, .int (iI i)] (mP dA ad h σ0 (some (.int (iI ((laF S (30 + 3 * i) : Int))))) (S)) nX := by
  refine gM_body (by decide +kernel) (by simp [Value.category]) (Nat.le_of_ble_eq_true rfl) (fun Γ hdA cx rx nx => ?_)
  subst hdA
  have cx : CX lc Γ cX7_lastOf RX7 2 { frames := 1, cells := 0, slots := 0, locals := 22 } := cx
  show G Γ σ0 0 0 0 [some (.ref h), some (.int (iI i))] []
  have hF : mFr ad h σ0 σ0 := mFr.rf
  obtain ⟨-, -, -, g0, g1, g2, g3, -⟩ := id hs
  have e2 : S 11 (30 + 3 * i + ((2 : Nat) : Int)) = S 11 (30 + 3 * i + 2) := rfl
  have e1 : S 11 (30 + 3 * i + ((1 : Nat) : Int)) = S 11 (30 + 3 * i + 1) := rfl
  have J27 : ∀ (k : Nat) (σ : hS), laF S (30 + 3 * i) = k → mat (gdA Γ) ad σ h S → mFr ad h σ0 σ → G Γ σ 0 0 27 [some (.ref h), some (.int (iI i))] [.int (iI (k : Int))] := by
    intro k σ hk hm hF
    exact z_ret (pc := 27) cx rx (by decide) (by decide) dX7_lastOf_27 ⟨by rw [hk], hm, hF⟩
  refine z_al_2_0 (pc := 0) cx dX7_lastOf_0 ?_
  refine z_il_2_1 (pc := 1) cx dX7_lastOf_1 ?_
  refine z_iconst (pc := 2) cx dX7_lastOf_2 ?_
  refine m_callV (pc := 3) cx lk_X7_147 (c_X7_linkOf hm (j := 2) hi (by omega)) hm hF rfl gy_X7_linkOf ⟨⟨by decide, by decide⟩, by decide, by decide⟩ ⟨rfl, rfl⟩ rfl rfl (Nat.le_of_ble_eq_true rfl) dX7_lastOf_3 ?_
  intro σ hm hF
  show G Γ _ _ _ 6 _ (.int (iI _) :: _)
  refine z_if_lt (pc := 6) (tgt := 13) cx (by omega) (by decide) dX7_lastOf_6 (fun c_6 => ?_) (fun c_6 => ?_)
  · skip
    refine z_al_2_0 (pc := 13) cx dX7_lastOf_13 ?_
    refine z_il_2_1 (pc := 14) cx dX7_lastOf_14 ?_
    refine z_iconst (pc := 15) cx dX7_lastOf_15 ?_
    refine m_callV (pc := 16) cx lk_X7_147 (c_X7_linkOf hm (j := 1) hi (by omega)) hm hF rfl gy_X7_linkOf ⟨⟨by decide, by decide⟩, by decide, by decide⟩ ⟨rfl, rfl⟩ rfl rfl (Nat.le_of_ble_eq_true rfl) dX7_lastOf_16 ?_
    intro σ hm hF
    show G Γ _ _ _ 19 _ (.int (iI _) :: _)
    refine z_if_lt (pc := 19) (tgt := 26) cx (by omega) (by decide) dX7_lastOf_19 (fun c_19 => ?_) (fun c_19 => ?_)
    · skip
      refine z_iconst (pc := 26) cx dX7_lastOf_26 ?_
      exact J27 0 σ (by unfold laF; rw [if_neg (by omega), if_neg (by omega)]) hm hF
    · skip
      refine z_iconst (pc := 22) cx dX7_lastOf_22 ?_
      refine g_goto (pc := 23) (tgt := 27) cx (by decide) dX7_lastOf_23 ?_
      exact J27 1 σ (by unfold laF; rw [if_neg (by omega), if_pos (by omega)]) hm hF
  · skip
    refine z_iconst (pc := 9) cx dX7_lastOf_9 ?_
    refine g_goto (pc := 10) (tgt := 27) cx (by decide) dX7_lastOf_10 ?_
    exact J27 2 σ (by unfold laF; rw [if_pos (by omega)]) hm hF

set_option maxRecDepth 100000 in
set_option maxHeartbeats 4000000 in
theorem c_X7_isTalker {lc : Launch} {dA : Nat → ClassId} {ad : Nat → Nat} {σ0 : hS} {h : Nat} {S : mS} (hm : mat dA ad σ0 h S) {i : Int} (hi : -2147483648 ≤ i ∧ i ≤ 2147483647) (hs : -1 ≤ S 7 2 ∧ S 7 2 ≤ 5) : gM lc dA yX7_isTalker (.code yX7_isTalker cX7_isTalker 2 (some .boolean)) { frames := 0, cells := 0, slots := 0, locals := 0 } σ0 [.ref h, .int (iI i)] (mP dA ad h σ0 (some (.int (iI (bz (isTk S i))))) (S)) nX := by
  refine gM_body (by decide +kernel) (by simp [Value.category]) (Nat.le_of_ble_eq_true rfl) (fun Γ hdA cx rx nx => ?_)
  subst hdA
  have cx : CX lc Γ cX7_isTalker RX7 2 { frames := 0, cells := 0, slots := 0, locals := 0 } := cx
  show G Γ σ0 0 0 0 [some (.ref h), some (.int (iI i))] []
  have hF : mFr ad h σ0 σ0 := mFr.rf
  refine z_il_2_1 (pc := 0) cx dX7_isTalker_0 ?_
  refine z_if_lt (pc := 1) (tgt := 18) cx (by omega) (by decide) dX7_isTalker_1 (fun c_1 => ?_) (fun c_1 => ?_)
  · skip
    refine z_iconst (pc := 18) cx dX7_isTalker_18 ?_
    exact (z_retb (pc := 19) (b := isTk S i) cx rx (by decide) (by decide) dX7_isTalker_19 (by unfold isTk; simp only [bz, decide_eq_true_eq]; split <;> omega) ⟨rfl, hm, hF⟩)
  · skip
    refine z_il_2_1 (pc := 4) cx dX7_isTalker_4 ?_
    refine z_al_2_0 (pc := 5) cx dX7_isTalker_5 ?_
    refine m_get (pc := 6) cx hm fl_X7_25 rfl dX7_isTalker_6 ?_
    refine z_iconst (pc := 9) cx dX7_isTalker_9 ?_
    refine m_iald (pc := 10) (k := 7) (L := 3) cx hm ⟨rfl, rfl, by decide, by decide⟩ dX7_isTalker_10 (by omega) ?_
    refine z_icmp_ge (pc := 11) (tgt := 18) cx (by omega) (by decide) dX7_isTalker_11 (fun c_11 => ?_) (fun c_11 => ?_)
    · skip
      refine z_iconst (pc := 18) cx dX7_isTalker_18 ?_
      exact (z_retb (pc := 19) (b := isTk S i) cx rx (by decide) (by decide) dX7_isTalker_19 (by unfold isTk; simp only [bz, decide_eq_true_eq]; split <;> omega) ⟨rfl, hm, hF⟩)
    · skip
      refine z_iconst (pc := 14) cx dX7_isTalker_14 ?_
      refine g_goto (pc := 15) (tgt := 19) cx (by decide) dX7_isTalker_15 ?_
      exact (z_retb (pc := 19) (b := isTk S i) cx rx (by decide) (by decide) dX7_isTalker_19 (by unfold isTk; simp only [bz, decide_eq_true_eq]; split <;> omega) ⟨rfl, hm, hF⟩)

set_option maxRecDepth 100000 in
set_option maxHeartbeats 4000000 in
theorem c_X7_isLost {lc : Launch} {dA : Nat → ClassId} {ad : Nat → Nat} {σ0 : hS} {h : Nat} {S : mS} (hm : mat dA ad σ0 h S) {f : Int} (hf : mFm S f) (ht : mTm S) (hc : ∀ l, 0 ≤ l → l < 6 → 0 ≤ S 26 l ∧ S 26 l ≤ 1) : gM lc dA yX7_isLost (.code yX7_isLost cX7_isLost 4 (some .boolean)) { frames := 2, cells := 0, slots := 0, locals := 47 } σ0 [.ref h, .int (iI f)] (mP dA ad h σ0 (some (.int (iI (bz (lostF S f))))) (S)) nX := by
  refine gM_body (by decide +kernel) (by simp [Value.category]) (Nat.le_of_ble_eq_true rfl) (fun Γ hdA cx rx nx => ?_)
  subst hdA
  have cx : CX lc Γ cX7_isLost RX7 4 { frames := 2, cells := 0, slots := 0, locals := 47 } := cx
  show G Γ σ0 0 0 0 [some (.ref h), some (.int (iI f)), none, none] []
  have hF : mFr ad h σ0 σ0 := mFr.rf
  obtain ⟨f1, f2, f3, f4⟩ := id hf
  have hla := laF_le S (30 + 3 * S 24 f)
  unfold mTm at ht
  refine z_iconst (pc := 0) cx dX7_isLost_0 ?_
  refine z_is_4_2 (pc := 1) cx dX7_isLost_1 ?_
  refine z_iconst (pc := 2) cx dX7_isLost_2 ?_
  refine z_is_4_3 (pc := 3) cx dX7_isLost_3 ?_
  have J4 : ∀ (n j : Nat) (σ : hS), j + n = laF S (30 + 3 * S 24 f) + 1 → mat (gdA Γ) ad σ h S → mFr ad h σ0 σ → G Γ σ 0 0 4 [some (.ref h), some (.int (iI (f))), some (.int (iI (bz (anyN j (lostJ S f))))), some (.int (iI ((j : Int))))] [] := by
    intro n
    induction n using Nat.strongRecOn with
    | _ n ih =>
    intro j σ hn hm hF
    refine z_il_4_3 (pc := 4) cx dX7_isLost_4 ?_
    refine z_al_4_0 (pc := 5) cx dX7_isLost_5 ?_
    refine z_al_4_0 (pc := 6) cx dX7_isLost_6 ?_
    refine m_get (pc := 7) cx hm fl_X7_68 rfl dX7_isLost_7 ?_
    refine z_il_4_1 (pc := 10) cx dX7_isLost_10 ?_
    refine m_iald (pc := 11) (k := 24) (L := 64) cx hm ⟨rfl, rfl, by decide, by decide⟩ dX7_isLost_11 (by omega) ?_
    refine m_callV (pc := 12) cx lk_X7_150 (c_X7_lastOf hm f2 f4) hm hF rfl gy_X7_lastOf ⟨⟨by decide, by decide⟩, by decide, by decide⟩ ⟨rfl, rfl⟩ rfl rfl (Nat.le_of_ble_eq_true rfl) dX7_isLost_12 ?_
    intro σ hm hF
    show G Γ _ _ _ 15 _ (.int (iI _) :: _)
    refine z_icmp_gt (pc := 15) (tgt := 66) cx (by omega) (by decide) dX7_isLost_15 (fun c_15 => ?_) (fun c_15 => ?_)
    · obtain rfl : j = laF S (30 + 3 * S 24 f) + 1 := by omega
      refine z_il_4_2 (pc := 66) cx dX7_isLost_66 ?_
      exact (z_retb (pc := 67) (b := lostF S f) cx rx (by decide) (by decide) dX7_isLost_67 rfl ⟨rfl, hm, hF⟩)
    · skip
      have J59 : ∀ (e : Int) (σ : hS), e = bz (anyN (j + 1) (lostJ S f)) → mat (gdA Γ) ad σ h S → mFr ad h σ0 σ → G Γ σ 0 0 59 [some (.ref h), some (.int (iI (f))), some (.int (iI (bz (anyN j (lostJ S f))))), some (.int (iI ((j : Int))))] [.int (iI e)] := by
        intro e σ he hm hF
        subst he
        refine z_is_4_2 (pc := 59) cx dX7_isLost_59 ?_
        refine z_ii_4_3 (pc := 60) cx dX7_isLost_60 ?_
        refine g_goto (pc := 63) (tgt := 4) cx (by decide) dX7_isLost_63 ?_
        exact ih (n - 1) (by omega) (j + 1) σ (by omega) hm hF
      have hjl : j ≤ laF S (30 + 3 * S 24 f) := by omega
      have hpl := mSi_path f4 hjl
      have hbr := begO_r hf (j := j) (by omega)
      have hcr := hc _ hpl.1 hpl.2
      refine z_il_4_2 (pc := 18) cx dX7_isLost_18 ?_
      refine z_if_ne (pc := 19) (tgt := 54) cx (by have := bz_r (anyN j (lostJ S f)); omega) (by decide) dX7_isLost_19 (fun c_19 => ?_) (fun c_19 => ?_)
      · skip
        refine z_iconst (pc := 54) cx dX7_isLost_54 ?_
        refine g_goto (pc := 55) (tgt := 59) cx (by decide) dX7_isLost_55 ?_
        exact J59 _ σ (by
          rw [anyN]
          first
          | (rw [bz_n0.mp c_19]; rfl)
          | (rw [bz_0.mp c_19, lostJ, decide_eq_true c_32, decide_eq_true c_51]; rfl)) hm hF
      · skip
        refine z_al_4_0 (pc := 22) cx dX7_isLost_22 ?_
        refine z_il_4_1 (pc := 23) cx dX7_isLost_23 ?_
        refine z_il_4_3 (pc := 24) cx dX7_isLost_24 ?_
        refine m_callV (pc := 25) cx lk_X7_144 (c_X7_beginOf hm hf (j := j) (by omega)) hm hF rfl gy_X7_beginOf ⟨⟨by decide, by decide⟩, by decide, by decide⟩ ⟨rfl, rfl⟩ rfl rfl (Nat.le_of_ble_eq_true rfl) dX7_isLost_25 ?_
        intro σ hm hF
        show G Γ _ _ _ 28 _ (.int (iI _) :: _)
        refine z_al_4_0 (pc := 28) cx dX7_isLost_28 ?_
        refine m_get (pc := 29) cx hm fl_X7_141 rfl dX7_isLost_29 ?_
        refine z_icmp_ne (pc := 32) (tgt := 58) cx (by omega) (by decide) dX7_isLost_32 (fun c_32 => ?_) (fun c_32 => ?_)
        · skip
          refine z_iconst (pc := 58) cx dX7_isLost_58 ?_
          exact J59 _ σ (by
            rw [anyN, bz_0.mp c_19, lostJ]
            first
            | (rw [decide_eq_false c_32]; rfl)
            | (rw [decide_eq_true c_32, decide_eq_false (fun q => q c_51)]; rfl)) hm hF
        · skip
          refine z_al_4_0 (pc := 35) cx dX7_isLost_35 ?_
          refine m_get (pc := 36) cx hm fl_X7_74 rfl dX7_isLost_36 ?_
          refine z_al_4_0 (pc := 39) cx dX7_isLost_39 ?_
          refine z_al_4_0 (pc := 40) cx dX7_isLost_40 ?_
          refine m_get (pc := 41) cx hm fl_X7_68 rfl dX7_isLost_41 ?_
          refine z_il_4_1 (pc := 44) cx dX7_isLost_44 ?_
          refine m_iald (pc := 45) (k := 24) (L := 64) cx hm ⟨rfl, rfl, by decide, by decide⟩ dX7_isLost_45 (by omega) ?_
          refine z_il_4_3 (pc := 46) cx dX7_isLost_46 ?_
          refine m_callV (pc := 47) cx lk_X7_147 (c_X7_linkOf hm (j := j) f2 (by omega)) hm hF rfl gy_X7_linkOf ⟨⟨by decide, by decide⟩, by decide, by decide⟩ ⟨rfl, rfl⟩ rfl rfl (Nat.le_of_ble_eq_true rfl) dX7_isLost_47 ?_
          intro σ hm hF
          show G Γ _ _ _ 50 _ (.int (iI _) :: _)
          refine m_zald (pc := 50) (k := 26) (L := 6) cx hm ⟨rfl, rfl, by decide, by decide⟩ dX7_isLost_50 (by omega) ?_
          refine z_if_eq (pc := 51) (tgt := 58) cx (by omega) (by decide) dX7_isLost_51 (fun c_51 => ?_) (fun c_51 => ?_)
          · skip
            refine z_iconst (pc := 58) cx dX7_isLost_58 ?_
            exact J59 _ σ (by
              rw [anyN, bz_0.mp c_19, lostJ]
              first
              | (rw [decide_eq_false c_32]; rfl)
              | (rw [decide_eq_true c_32, decide_eq_false (fun q => q c_51)]; rfl)) hm hF
          · skip
            refine z_iconst (pc := 54) cx dX7_isLost_54 ?_
            refine g_goto (pc := 55) (tgt := 59) cx (by decide) dX7_isLost_55 ?_
            exact J59 _ σ (by
              rw [anyN]
              first
              | (rw [bz_n0.mp c_19]; rfl)
              | (rw [bz_0.mp c_19, lostJ, decide_eq_true c_32, decide_eq_true c_51]; rfl)) hm hF
  exact J4 (laF S (30 + 3 * S 24 f) + 1) 0 σ0 (by omega) hm hF

set_option maxRecDepth 100000 in
set_option maxHeartbeats 4000000 in
theorem c_X7_isHit {lc : Launch} {dA : Nat → ClassId} {ad : Nat → Nat} {σ0 : hS} {h : Nat} {S : mS} (hm : mat dA ad σ0 h S) {f w : Int} (hf : mFm S f) (ht : mTm S) (hw : 0 ≤ w ∧ w < 6) : gM lc dA yX7_isHit (.code yX7_isHit cX7_isHit 5 (some .boolean)) { frames := 3, cells := 0, slots := 0, locals := 70 } σ0 [.ref h, .int (iI f), .int (iI w)] (mP dA ad h σ0 (some (.int (iI (bz (hitF S f w))))) (S)) nX := by
  refine gM_body (by decide +kernel) (by simp [Value.category]) (Nat.le_of_ble_eq_true rfl) (fun Γ hdA cx rx nx => ?_)
  subst hdA
  have cx : CX lc Γ cX7_isHit RX7 5 { frames := 3, cells := 0, slots := 0, locals := 70 } := cx
  show G Γ σ0 0 0 0 [some (.ref h), some (.int (iI f)), some (.int (iI w)), none, none] []
  have hF : mFr ad h σ0 σ0 := mFr.rf
  obtain ⟨f1, f2, f3, f4⟩ := id hf
  have hla := laF_le S (30 + 3 * S 24 f)
  unfold mTm at ht
  refine z_iconst (pc := 0) cx dX7_isHit_0 ?_
  refine z_is_5_3 (pc := 1) cx dX7_isHit_1 ?_
  refine z_iconst (pc := 2) cx dX7_isHit_2 ?_
  refine z_is_5_4 (pc := 3) cx dX7_isHit_3 ?_
  have J5 : ∀ (n j : Nat) (σ : hS), j + n = laF S (30 + 3 * S 24 f) + 1 → mat (gdA Γ) ad σ h S → mFr ad h σ0 σ → G Γ σ 0 0 5 [some (.ref h), some (.int (iI (f))), some (.int (iI (w))), some (.int (iI (bz (anyN j (hitJ S f w))))), some (.int (iI ((j : Int))))] [] := by
    intro n
    induction n using Nat.strongRecOn with
    | _ n ih =>
    intro j σ hn hm hF
    refine z_il_5_4 (pc := 5) cx dX7_isHit_5 ?_
    refine z_al_5_0 (pc := 7) cx dX7_isHit_7 ?_
    refine z_al_5_0 (pc := 8) cx dX7_isHit_8 ?_
    refine m_get (pc := 9) cx hm fl_X7_68 rfl dX7_isHit_9 ?_
    refine z_il_5_1 (pc := 12) cx dX7_isHit_12 ?_
    refine m_iald (pc := 13) (k := 24) (L := 64) cx hm ⟨rfl, rfl, by decide, by decide⟩ dX7_isHit_13 (by omega) ?_
    refine m_callV (pc := 14) cx lk_X7_150 (c_X7_lastOf hm f2 f4) hm hF rfl gy_X7_lastOf ⟨⟨by decide, by decide⟩, by decide, by decide⟩ ⟨rfl, rfl⟩ rfl rfl (Nat.le_of_ble_eq_true rfl) dX7_isHit_14 ?_
    intro σ hm hF
    show G Γ _ _ _ 17 _ (.int (iI _) :: _)
    refine z_icmp_gt (pc := 17) (tgt := 80) cx (by omega) (by decide) dX7_isHit_17 (fun c_17 => ?_) (fun c_17 => ?_)
    · obtain rfl : j = laF S (30 + 3 * S 24 f) + 1 := by omega
      refine z_il_5_3 (pc := 80) cx dX7_isHit_80 ?_
      exact (z_retb (pc := 81) (b := hitF S f w) cx rx (by decide) (by decide) dX7_isHit_81 rfl ⟨rfl, hm, hF⟩)
    · skip
      have J73 : ∀ (e : Int) (σ : hS), e = bz (anyN (j + 1) (hitJ S f w)) → mat (gdA Γ) ad σ h S → mFr ad h σ0 σ → G Γ σ 0 0 73 [some (.ref h), some (.int (iI (f))), some (.int (iI (w))), some (.int (iI (bz (anyN j (hitJ S f w))))), some (.int (iI ((j : Int))))] [.int (iI e)] := by
        intro e σ he hm hF
        subst he
        refine z_is_5_3 (pc := 73) cx dX7_isHit_73 ?_
        refine z_ii_5_4 (pc := 74) cx dX7_isHit_74 ?_
        refine g_goto (pc := 77) (tgt := 5) cx (by decide) dX7_isHit_77 ?_
        exact ih (n - 1) (by omega) (j + 1) σ (by omega) hm hF
      have hjl : j ≤ laF S (30 + 3 * S 24 f) := by omega
      have hpl := mSi_path f4 hjl
      have hbr := begO_r hf (j := j) (by omega)
      have htr := thrO_r hf (j := j) (by omega)
      refine z_il_5_3 (pc := 20) cx dX7_isHit_20 ?_
      refine z_if_ne (pc := 21) (tgt := 68) cx (by have := bz_r (anyN j (hitJ S f w)); omega) (by decide) dX7_isHit_21 (fun c_21 => ?_) (fun c_21 => ?_)
      · skip
        refine z_iconst (pc := 68) cx dX7_isHit_68 ?_
        refine g_goto (pc := 69) (tgt := 73) cx (by decide) dX7_isHit_69 ?_
        exact J73 _ σ (by
          rw [anyN]
          first
          | (rw [bz_n0.mp c_21]; rfl)
          | (rw [bz_0.mp c_21, hitJ, decide_eq_true c_37, decide_eq_true c_51, decide_eq_true c_65]; rfl)) hm hF
      · skip
        refine z_al_5_0 (pc := 24) cx dX7_isHit_24 ?_
        refine z_al_5_0 (pc := 25) cx dX7_isHit_25 ?_
        refine m_get (pc := 26) cx hm fl_X7_68 rfl dX7_isHit_26 ?_
        refine z_il_5_1 (pc := 29) cx dX7_isHit_29 ?_
        refine m_iald (pc := 30) (k := 24) (L := 64) cx hm ⟨rfl, rfl, by decide, by decide⟩ dX7_isHit_30 (by omega) ?_
        refine z_il_5_4 (pc := 31) cx dX7_isHit_31 ?_
        refine m_callV (pc := 33) cx lk_X7_147 (c_X7_linkOf hm (j := j) f2 (by omega)) hm hF rfl gy_X7_linkOf ⟨⟨by decide, by decide⟩, by decide, by decide⟩ ⟨rfl, rfl⟩ rfl rfl (Nat.le_of_ble_eq_true rfl) dX7_isHit_33 ?_
        intro σ hm hF
        show G Γ _ _ _ 36 _ (.int (iI _) :: _)
        refine z_il_5_2 (pc := 36) cx dX7_isHit_36 ?_
        refine z_icmp_ne (pc := 37) (tgt := 72) cx (by omega) (by decide) dX7_isHit_37 (fun c_37 => ?_) (fun c_37 => ?_)
        · skip
          refine z_iconst (pc := 72) cx dX7_isHit_72 ?_
          exact J73 _ σ (by
            rw [anyN, bz_0.mp c_21, hitJ]
            first
            | (rw [decide_eq_false c_37]; rfl)
            | (rw [decide_eq_false (show ¬ begO S f j < S 15 0 by omega), Bool.and_false]; rfl)
            | (rw [decide_eq_false (show ¬ S 15 0 < thrO S f j by omega), Bool.and_false]; rfl)) hm hF
        · skip
          refine z_al_5_0 (pc := 40) cx dX7_isHit_40 ?_
          refine z_il_5_1 (pc := 41) cx dX7_isHit_41 ?_
          refine z_il_5_4 (pc := 42) cx dX7_isHit_42 ?_
          refine m_callV (pc := 44) cx lk_X7_144 (c_X7_beginOf hm hf (j := j) (by omega)) hm hF rfl gy_X7_beginOf ⟨⟨by decide, by decide⟩, by decide, by decide⟩ ⟨rfl, rfl⟩ rfl rfl (Nat.le_of_ble_eq_true rfl) dX7_isHit_44 ?_
          intro σ hm hF
          show G Γ _ _ _ 47 _ (.int (iI _) :: _)
          refine z_al_5_0 (pc := 47) cx dX7_isHit_47 ?_
          refine m_get (pc := 48) cx hm fl_X7_141 rfl dX7_isHit_48 ?_
          refine z_icmp_ge (pc := 51) (tgt := 72) cx (by omega) (by decide) dX7_isHit_51 (fun c_51 => ?_) (fun c_51 => ?_)
          · skip
            refine z_iconst (pc := 72) cx dX7_isHit_72 ?_
            exact J73 _ σ (by
              rw [anyN, bz_0.mp c_21, hitJ]
              first
              | (rw [decide_eq_false c_37]; rfl)
              | (rw [decide_eq_false (show ¬ begO S f j < S 15 0 by omega), Bool.and_false]; rfl)
              | (rw [decide_eq_false (show ¬ S 15 0 < thrO S f j by omega), Bool.and_false]; rfl)) hm hF
          · skip
            refine z_al_5_0 (pc := 54) cx dX7_isHit_54 ?_
            refine z_il_5_1 (pc := 55) cx dX7_isHit_55 ?_
            refine z_il_5_4 (pc := 56) cx dX7_isHit_56 ?_
            refine m_callV (pc := 58) cx lk_X7_161 (c_X7_throughOf hm hf (j := j) (by omega)) hm hF rfl gy_X7_throughOf ⟨⟨by decide, by decide⟩, by decide, by decide⟩ ⟨rfl, rfl⟩ rfl rfl (Nat.le_of_ble_eq_true rfl) dX7_isHit_58 ?_
            intro σ hm hF
            show G Γ _ _ _ 61 _ (.int (iI _) :: _)
            refine z_al_5_0 (pc := 61) cx dX7_isHit_61 ?_
            refine m_get (pc := 62) cx hm fl_X7_141 rfl dX7_isHit_62 ?_
            refine z_icmp_le (pc := 65) (tgt := 72) cx (by omega) (by decide) dX7_isHit_65 (fun c_65 => ?_) (fun c_65 => ?_)
            · skip
              refine z_iconst (pc := 72) cx dX7_isHit_72 ?_
              exact J73 _ σ (by
                rw [anyN, bz_0.mp c_21, hitJ]
                first
                | (rw [decide_eq_false c_37]; rfl)
                | (rw [decide_eq_false (show ¬ begO S f j < S 15 0 by omega), Bool.and_false]; rfl)
                | (rw [decide_eq_false (show ¬ S 15 0 < thrO S f j by omega), Bool.and_false]; rfl)) hm hF
            · skip
              refine z_iconst (pc := 68) cx dX7_isHit_68 ?_
              refine g_goto (pc := 69) (tgt := 73) cx (by decide) dX7_isHit_69 ?_
              exact J73 _ σ (by
                rw [anyN]
                first
                | (rw [bz_n0.mp c_21]; rfl)
                | (rw [bz_0.mp c_21, hitJ, decide_eq_true c_37, decide_eq_true c_51, decide_eq_true c_65]; rfl)) hm hF
  exact J5 (laF S (30 + 3 * S 24 f) + 1) 0 σ0 (by omega) hm hF

set_option maxRecDepth 100000 in
set_option maxHeartbeats 4000000 in
theorem c_X7_isFree {lc : Launch} {dA : Nat → ClassId} {ad : Nat → Nat} {σ0 : hS} {h : Nat} {S : mS} (hm : mat dA ad σ0 h S) {w : Int} {n9 : Int} {m : Nat} (hw : 0 ≤ w ∧ w < 6) (hn : m ≤ 8) (ht : mTm S) (hs : mSch S 2) (hnm : n9 = (m : Int)) : gM lc dA yX7_isFree (.code yX7_isFree cX7_isFree 5 (some .boolean)) { frames := 2, cells := 0, slots := 0, locals := 51 } σ0 [.ref h, .int (iI w), .int (iI n9)] (mP dA ad h σ0 (some (.int (iI (bz (freeF S w m))))) (S)) nX := by
  refine gM_body (by decide +kernel) (by simp [Value.category]) (Nat.le_of_ble_eq_true rfl) (fun Γ hdA cx rx nx => ?_)
  subst hdA
  have cx : CX lc Γ cX7_isFree RX7 5 { frames := 2, cells := 0, slots := 0, locals := 51 } := cx
  show G Γ σ0 0 0 0 [some (.ref h), some (.int (iI w)), some (.int (iI n9)), none, none] []
  have hF : mFr ad h σ0 σ0 := mFr.rf
  subst hnm
  unfold mTm at ht
  have hs1 := hs.1
  have J52 : ∀ (e : Int) (x4 : Option Value) (σ : hS), e = bz (freeF S w m) → mat (gdA Γ) ad σ h S → mFr ad h σ0 σ → G Γ σ 0 0 52 [some (.ref h), some (.int (iI (w))), some (.int (iI ((m : Int)))), some (.int (iI (e))), x4] [] := by
    intro e x4 σ he hm hF
    subst he
    refine z_il_5_3 (pc := 52) cx dX7_isFree_52 ?_
    exact (z_retb (pc := 53) (b := freeF S w m) cx rx (by decide) (by decide) dX7_isFree_53 rfl ⟨rfl, hm, hF⟩)
  refine z_iconst (pc := 0) cx dX7_isFree_0 ?_
  refine z_is_5_3 (pc := 1) cx dX7_isFree_1 ?_
  refine z_iconst (pc := 2) cx dX7_isFree_2 ?_
  refine z_is_5_4 (pc := 3) cx dX7_isFree_3 ?_
  have J5 : ∀ (n k : Nat) (σ : hS), k + n = m → (k = 0 ∨ 0 ≤ S 7 2) → mat (gdA Γ) ad σ h S → mFr ad h σ0 σ → G Γ σ 0 0 5 [some (.ref h), some (.int (iI (w))), some (.int (iI ((m : Int)))), some (.int (iI (bz (allN k (freeK S w))))), some (.int (iI ((k : Int))))] [] := by
    intro n
    induction n using Nat.strongRecOn with
    | _ n ih =>
    intro k σ hkn hk0 hm hF
    refine z_il_5_4 (pc := 5) cx dX7_isFree_5 ?_
    refine z_il_5_2 (pc := 7) cx dX7_isFree_7 ?_
    refine z_icmp_ge (pc := 8) (tgt := 52) cx (by omega) (by decide) dX7_isFree_8 (fun c_8 => ?_) (fun c_8 => ?_)
    · skip
      exact J52 _ _ σ (by
        obtain rfl : k = m := by omega
        unfold freeF
        rcases hk0 with q | q
        · subst q; simp [allN]
        · rw [decide_eq_false (show ¬ S 7 2 < 0 by omega)]; rfl) hm hF
    · skip
      refine z_al_5_0 (pc := 11) cx dX7_isFree_11 ?_
      refine m_get (pc := 12) cx hm fl_X7_25 rfl dX7_isFree_12 ?_
      refine z_iconst (pc := 15) cx dX7_isFree_15 ?_
      refine m_iald (pc := 16) (k := 7) (L := 3) cx hm ⟨rfl, rfl, by decide, by decide⟩ dX7_isFree_16 (by omega) ?_
      refine z_if_lt (pc := 17) (tgt := 52) cx (by omega) (by decide) dX7_isFree_17 (fun c_17 => ?_) (fun c_17 => ?_)
      · skip
        exact J52 _ _ σ (by
          obtain rfl : k = 0 := by omega
          unfold freeF
          rw [decide_eq_true c_17]; rfl) hm hF
      · skip
        have J45 : ∀ (e : Int) (σ : hS), e = bz (allN (k + 1) (freeK S w)) → mat (gdA Γ) ad σ h S → mFr ad h σ0 σ → G Γ σ 0 0 45 [some (.ref h), some (.int (iI (w))), some (.int (iI ((m : Int)))), some (.int (iI (bz (allN k (freeK S w))))), some (.int (iI ((k : Int))))] [.int (iI e)] := by
          intro e σ he hm hF
          subst he
          refine z_is_5_3 (pc := 45) cx dX7_isFree_45 ?_
          refine z_ii_5_4 (pc := 46) cx dX7_isFree_46 ?_
          refine g_goto (pc := 49) (tgt := 5) cx (by decide) dX7_isFree_49 ?_
          exact ih (n - 1) (by omega) (k + 1) σ (by omega) (Or.inr c_17) hm hF
        refine z_il_5_3 (pc := 20) cx dX7_isFree_20 ?_
        refine z_if_eq (pc := 21) (tgt := 44) cx (by have := bz_r (allN k (freeK S w)); omega) (by decide) dX7_isFree_21 (fun c_21 => ?_) (fun c_21 => ?_)
        · skip
          refine z_iconst (pc := 44) cx dX7_isFree_44 ?_
          exact J45 _ σ (by
            rw [allN]
            first
            | (rw [bz_0.mp c_21]; rfl)
            | (rw [bz_n0.mp c_21, freeK, decide_eq_false (show ¬ spF S 2 w (S 15 0 + (k : Int)) < 0 by omega)]; rfl)) hm hF
        · skip
          refine z_al_5_0 (pc := 24) cx dX7_isFree_24 ?_
          refine z_iconst (pc := 25) cx dX7_isFree_25 ?_
          refine z_il_5_1 (pc := 26) cx dX7_isFree_26 ?_
          refine z_al_5_0 (pc := 27) cx dX7_isFree_27 ?_
          refine m_get (pc := 28) cx hm fl_X7_141 rfl dX7_isFree_28 ?_
          refine z_il_5_4 (pc := 31) cx dX7_isFree_31 ?_
          refine z_iadd (pc := 33) cx dX7_isFree_33 ?_
          refine m_callV (pc := 34) cx lk_X7_131 (c_X7_spanOf hm (k := 2) (by omega) hs (by omega) (by omega)) hm hF rfl gy_X7_spanOf ⟨⟨by decide, by decide⟩, by decide, by decide⟩ ⟨rfl, rfl⟩ rfl rfl (Nat.le_of_ble_eq_true rfl) dX7_isFree_34 ?_
          intro σ hm hF
          show G Γ _ _ _ 37 _ (.int (iI _) :: _)
          have hsr := fstN_r (n := (S 7 2).toNat) (f := spI S 2 w (S 15 0 + (k : Int)))
          have hsr2 : -1 ≤ spF S 2 w (S 15 0 + (k : Int)) ∧ spF S 2 w (S 15 0 + (k : Int)) ≤ 5 := by unfold spF; omega
          refine z_if_ge (pc := 37) (tgt := 44) cx (by omega) (by decide) dX7_isFree_37 (fun c_37 => ?_) (fun c_37 => ?_)
          · skip
            refine z_iconst (pc := 44) cx dX7_isFree_44 ?_
            exact J45 _ σ (by
              rw [allN]
              first
              | (rw [bz_0.mp c_21]; rfl)
              | (rw [bz_n0.mp c_21, freeK, decide_eq_false (show ¬ spF S 2 w (S 15 0 + (k : Int)) < 0 by omega)]; rfl)) hm hF
          · skip
            refine z_iconst (pc := 40) cx dX7_isFree_40 ?_
            refine g_goto (pc := 41) (tgt := 45) cx (by decide) dX7_isFree_41 ?_
            exact J45 _ σ (by rw [allN, bz_n0.mp c_21, freeK, decide_eq_true c_37]; rfl) hm hF
  exact J5 m 0 σ0 (by omega) (Or.inl rfl) hm hF

set_option maxRecDepth 100000 in
set_option maxHeartbeats 4000000 in
theorem c_X7_on {lc : Launch} {dA : Nat → ClassId} {ad : Nat → Nat} {σ0 : hS} {h : Nat} {S : mS} (hm : mat dA ad σ0 h S) {w : Int} (hw : 0 ≤ w ∧ w < 6) (hn : 0 ≤ S 23 0 ∧ S 23 0 ≤ 64) (hff : ∀ f, 0 ≤ f → f < S 23 0 → mFm S f) (ht : mTm S) (hbu : 0 ≤ S 29 w ∧ S 29 w ≤ 8) : gM lc dA yX7_on (.code yX7_on cX7_on 5 (some .int)) { frames := 2, cells := 0, slots := 0, locals := 47 } σ0 [.ref h, .int (iI w)] (mP dA ad h σ0 (some (.int (iI (onF S w)))) (S)) nX := by
  refine gM_body (by decide +kernel) (by simp [Value.category]) (Nat.le_of_ble_eq_true rfl) (fun Γ hdA cx rx nx => ?_)
  subst hdA
  have cx : CX lc Γ cX7_on RX7 5 { frames := 2, cells := 0, slots := 0, locals := 47 } := cx
  show G Γ σ0 0 0 0 [some (.ref h), some (.int (iI w)), none, none, none] []
  have hF : mFr ad h σ0 σ0 := mFr.rf
  unfold mTm at ht
  refine z_iconst (pc := 0) cx dX7_on_0 ?_
  refine z_is_5_2 (pc := 1) cx dX7_on_1 ?_
  have J2 : ∀ (n f : Nat) (x3 x4 : Option Value) (σ : hS), f + n = (S 23 0).toNat → (∀ f' : Nat, f' < f → onFr S w f' = false) → mat (gdA Γ) ad σ h S → mFr ad h σ0 σ → G Γ σ 0 0 2 [some (.ref h), some (.int (iI (w))), some (.int (iI ((f : Int)))), x3, x4] [] := by
    intro n
    induction n using Nat.strongRecOn with
    | _ n ih =>
    intro f x3 x4 σ hfn hno hm hF
    refine z_il_5_2 (pc := 2) cx dX7_on_2 ?_
    refine z_al_5_0 (pc := 3) cx dX7_on_3 ?_
    refine m_get (pc := 4) cx hm fl_X7_138 rfl dX7_on_4 ?_
    refine z_icmp_ge (pc := 7) (tgt := 101) cx (by omega) (by decide) dX7_on_7 (fun c_7 => ?_) (fun c_7 => ?_)
    · skip
      refine z_al_5_0 (pc := 101) cx dX7_on_101 ?_
      refine m_get (pc := 102) cx hm fl_X7_83 rfl dX7_on_102 ?_
      refine z_il_5_1 (pc := 105) cx dX7_on_105 ?_
      refine m_iald (pc := 106) (k := 29) (L := 6) cx hm ⟨rfl, rfl, by decide, by decide⟩ dX7_on_106 (by omega) ?_
      refine z_if_le (pc := 107) (tgt := 114) cx (by omega) (by decide) dX7_on_107 (fun c_107 => ?_) (fun c_107 => ?_)
      · skip
        refine z_iconst (pc := 114) cx dX7_on_114 ?_
        have eh := fstN_none (n := (S 23 0).toNat) (f := onFr S w) (fun f' q => hno f' (by omega))
        exact z_ret (pc := 115) cx rx (by decide) (by decide) dX7_on_115 ⟨by rw [onF, eh, if_neg (by omega)]; first | rw [if_pos (by omega)] | rw [if_neg (by omega)], hm, hF⟩
      · skip
        refine z_iconst (pc := 110) cx dX7_on_110 ?_
        refine g_goto (pc := 111) (tgt := 115) cx (by decide) dX7_on_111 ?_
        have eh := fstN_none (n := (S 23 0).toNat) (f := onFr S w) (fun f' q => hno f' (by omega))
        exact z_ret (pc := 115) cx rx (by decide) (by decide) dX7_on_115 ⟨by rw [onF, eh, if_neg (by omega)]; first | rw [if_pos (by omega)] | rw [if_neg (by omega)], hm, hF⟩
    · skip
      have hf := hff (f : Int) (by omega) (by omega)
      obtain ⟨f1, f2, f3, f4⟩ := id hf
      have hla := laF_le S (30 + 3 * S 24 (f : Int))
      have g9 := f4.2.1
      refine z_iconst (pc := 10) cx dX7_on_10 ?_
      refine z_is_5_3 (pc := 11) cx dX7_on_11 ?_
      have J12 : ∀ (n2 j : Nat) (x4 : Option Value) (σ : hS), j + n2 = laF S (30 + 3 * S 24 (f : Int)) + 1 → (∀ j' : Nat, j' < j → onJ S w (f : Int) j' = false) → mat (gdA Γ) ad σ h S → mFr ad h σ0 σ → G Γ σ 0 0 12 [some (.ref h), some (.int (iI (w))), some (.int (iI ((f : Int)))), some (.int (iI ((j : Int)))), x4] [] := by
        intro n2
        induction n2 using Nat.strongRecOn with
        | _ n2 ih2 =>
        intro j x4 σ hn2 hno2 hm hF
        refine z_il_5_3 (pc := 12) cx dX7_on_12 ?_
        refine z_al_5_0 (pc := 13) cx dX7_on_13 ?_
        refine z_al_5_0 (pc := 14) cx dX7_on_14 ?_
        refine m_get (pc := 15) cx hm fl_X7_68 rfl dX7_on_15 ?_
        refine z_il_5_2 (pc := 18) cx dX7_on_18 ?_
        refine m_iald (pc := 19) (k := 24) (L := 64) cx hm ⟨rfl, rfl, by decide, by decide⟩ dX7_on_19 (by omega) ?_
        refine m_callV (pc := 20) cx lk_X7_150 (c_X7_lastOf hm f2 f4) hm hF rfl gy_X7_lastOf ⟨⟨by decide, by decide⟩, by decide, by decide⟩ ⟨rfl, rfl⟩ rfl rfl (Nat.le_of_ble_eq_true rfl) dX7_on_20 ?_
        intro σ hm hF
        show G Γ _ _ _ 23 _ (.int (iI _) :: _)
        refine z_icmp_gt (pc := 23) (tgt := 95) cx (by omega) (by decide) dX7_on_23 (fun c_23 => ?_) (fun c_23 => ?_)
        · skip
          refine z_ii_5_2 (pc := 95) cx dX7_on_95 ?_
          refine g_goto (pc := 98) (tgt := 2) cx (by decide) dX7_on_98 ?_
          exact ih (n - 1) (by omega) (f + 1) _ _ σ (by omega) (fun f' q => (Nat.lt_succ_iff_lt_or_eq.mp q).elim (hno f') (fun q => by rw [q]; exact anyN_0 (fun j hj => hno2 j (by omega)))) hm hF
        · skip
          have hjl : j ≤ laF S (30 + 3 * S 24 (f : Int)) := by omega
          have hpl := mSi_path f4 hjl
          have hbr := begO_r hf (j := j) (by omega)
          refine z_al_5_0 (pc := 26) cx dX7_on_26 ?_
          refine z_il_5_2 (pc := 27) cx dX7_on_27 ?_
          refine z_il_5_3 (pc := 28) cx dX7_on_28 ?_
          refine m_callV (pc := 29) cx lk_X7_144 (c_X7_beginOf hm hf (j := j) (by omega)) hm hF rfl gy_X7_beginOf ⟨⟨by decide, by decide⟩, by decide, by decide⟩ ⟨rfl, rfl⟩ rfl rfl (Nat.le_of_ble_eq_true rfl) dX7_on_29 ?_
          intro σ hm hF
          show G Γ _ _ _ 32 _ (.int (iI _) :: _)
          refine z_is_5_4 (pc := 32) cx dX7_on_32 ?_
          refine z_al_5_0 (pc := 34) cx dX7_on_34 ?_
          refine z_al_5_0 (pc := 35) cx dX7_on_35 ?_
          refine m_get (pc := 36) cx hm fl_X7_68 rfl dX7_on_36 ?_
          refine z_il_5_2 (pc := 39) cx dX7_on_39 ?_
          refine m_iald (pc := 40) (k := 24) (L := 64) cx hm ⟨rfl, rfl, by decide, by decide⟩ dX7_on_40 (by omega) ?_
          refine z_il_5_3 (pc := 41) cx dX7_on_41 ?_
          refine m_callV (pc := 42) cx lk_X7_147 (c_X7_linkOf hm (j := j) f2 (by omega)) hm hF rfl gy_X7_linkOf ⟨⟨by decide, by decide⟩, by decide, by decide⟩ ⟨rfl, rfl⟩ rfl rfl (Nat.le_of_ble_eq_true rfl) dX7_on_42 ?_
          intro σ hm hF
          show G Γ _ _ _ 45 _ (.int (iI _) :: _)
          refine z_il_5_1 (pc := 45) cx dX7_on_45 ?_
          refine z_icmp_ne (pc := 46) (tgt := 89) cx (by omega) (by decide) dX7_on_46 (fun c_46 => ?_) (fun c_46 => ?_)
          · skip
            refine z_ii_5_3 (pc := 89) cx dX7_on_89 ?_
            refine g_goto (pc := 92) (tgt := 12) cx (by decide) dX7_on_92 ?_
            exact ih2 (n2 - 1) (by omega) (j + 1) _ σ (by omega) (fun j' q => (Nat.lt_succ_iff_lt_or_eq.mp q).elim (hno2 j') (fun q => by
              rw [q, onJ]
              first
              | (rw [decide_eq_false c_46]; rfl)
              | (rw [decide_eq_false (show ¬ begO S (f : Int) j < S 15 0 by omega), Bool.and_false]; rfl)
              | (rw [decide_eq_false (show ¬ S 15 0 < begO S (f : Int) j + S 9 (10 + S 24 (f : Int)) by omega), Bool.and_false]))) hm hF
          · skip
            refine z_il_5_4 (pc := 49) cx dX7_on_49 ?_
            refine z_al_5_0 (pc := 51) cx dX7_on_51 ?_
            refine m_get (pc := 52) cx hm fl_X7_141 rfl dX7_on_52 ?_
            refine z_icmp_ge (pc := 55) (tgt := 89) cx (by omega) (by decide) dX7_on_55 (fun c_55 => ?_) (fun c_55 => ?_)
            · skip
              refine z_ii_5_3 (pc := 89) cx dX7_on_89 ?_
              refine g_goto (pc := 92) (tgt := 12) cx (by decide) dX7_on_92 ?_
              exact ih2 (n2 - 1) (by omega) (j + 1) _ σ (by omega) (fun j' q => (Nat.lt_succ_iff_lt_or_eq.mp q).elim (hno2 j') (fun q => by
                rw [q, onJ]
                first
                | (rw [decide_eq_false c_46]; rfl)
                | (rw [decide_eq_false (show ¬ begO S (f : Int) j < S 15 0 by omega), Bool.and_false]; rfl)
                | (rw [decide_eq_false (show ¬ S 15 0 < begO S (f : Int) j + S 9 (10 + S 24 (f : Int)) by omega), Bool.and_false]))) hm hF
            · skip
              refine z_il_5_4 (pc := 58) cx dX7_on_58 ?_
              refine z_al_5_0 (pc := 60) cx dX7_on_60 ?_
              refine m_get (pc := 61) cx hm fl_X7_31 rfl dX7_on_61 ?_
              refine z_bipush (pc := 64) cx rfl dX7_on_64 ?_
              refine z_al_5_0 (pc := 66) cx dX7_on_66 ?_
              refine m_get (pc := 67) cx hm fl_X7_68 rfl dX7_on_67 ?_
              refine z_il_5_2 (pc := 70) cx dX7_on_70 ?_
              refine m_iald (pc := 71) (k := 24) (L := 64) cx hm ⟨rfl, rfl, by decide, by decide⟩ dX7_on_71 (by omega) ?_
              refine z_iadd (pc := 72) cx dX7_on_72 ?_
              refine m_iald (pc := 73) (k := 9) (L := 15) cx hm ⟨rfl, rfl, by decide, by decide⟩ dX7_on_73 (by omega) ?_
              refine z_iadd (pc := 74) cx dX7_on_74 ?_
              refine z_al_5_0 (pc := 75) cx dX7_on_75 ?_
              refine m_get (pc := 76) cx hm fl_X7_141 rfl dX7_on_76 ?_
              refine z_icmp_le (pc := 79) (tgt := 89) cx (by omega) (by decide) dX7_on_79 (fun c_79 => ?_) (fun c_79 => ?_)
              · skip
                refine z_ii_5_3 (pc := 89) cx dX7_on_89 ?_
                refine g_goto (pc := 92) (tgt := 12) cx (by decide) dX7_on_92 ?_
                exact ih2 (n2 - 1) (by omega) (j + 1) _ σ (by omega) (fun j' q => (Nat.lt_succ_iff_lt_or_eq.mp q).elim (hno2 j') (fun q => by
                  rw [q, onJ]
                  first
                  | (rw [decide_eq_false c_46]; rfl)
                  | (rw [decide_eq_false (show ¬ begO S (f : Int) j < S 15 0 by omega), Bool.and_false]; rfl)
                  | (rw [decide_eq_false (show ¬ S 15 0 < begO S (f : Int) j + S 9 (10 + S 24 (f : Int)) by omega), Bool.and_false]))) hm hF
              · skip
                refine z_al_5_0 (pc := 82) cx dX7_on_82 ?_
                refine m_get (pc := 83) cx hm fl_X7_68 rfl dX7_on_83 ?_
                refine z_il_5_2 (pc := 86) cx dX7_on_86 ?_
                refine m_iald (pc := 87) (k := 24) (L := 64) cx hm ⟨rfl, rfl, by decide, by decide⟩ dX7_on_87 (by omega) ?_
                have eh := fstN_hit hno (show onFr S w f = true from anyN_iff.mpr ⟨j, by omega, by rw [onJ, decide_eq_true c_46, decide_eq_true c_55, decide_eq_true c_79]; rfl⟩) (show f < (S 23 0).toNat by omega)
                exact z_ret (pc := 88) cx rx (by decide) (by decide) dX7_on_88 ⟨by rw [onF, eh, if_pos (by omega)], hm, hF⟩
      exact J12 (laF S (30 + 3 * S 24 (f : Int)) + 1) 0 x4 σ (by omega) (fun j q => absurd q (Nat.not_lt_zero _)) hm hF
  exact J2 (S 23 0).toNat 0 _ _ σ0 (by omega) (fun f q => absurd q (Nat.not_lt_zero _)) hm hF

set_option maxRecDepth 100000 in
set_option maxHeartbeats 4000000 in
theorem c_X7_isQuiet {lc : Launch} {dA : Nat → ClassId} {ad : Nat → Nat} {σ0 : hS} {h : Nat} {S : mS} (hm : mat dA ad σ0 h S) (hn : 0 ≤ S 23 0 ∧ S 23 0 ≤ 64) (hb : ∀ l, 0 ≤ l → l < 6 → 0 ≤ S 29 l ∧ S 29 l ≤ 8) : gM lc dA yX7_isQuiet (.code yX7_isQuiet cX7_isQuiet 3 (some .boolean)) { frames := 0, cells := 0, slots := 0, locals := 0 } σ0 [.ref h] (mP dA ad h σ0 (some (.int (iI (bz (quietF S))))) (S)) nX := by
  refine gM_body (by decide +kernel) (by simp [Value.category]) (Nat.le_of_ble_eq_true rfl) (fun Γ hdA cx rx nx => ?_)
  subst hdA
  have cx : CX lc Γ cX7_isQuiet RX7 3 { frames := 0, cells := 0, slots := 0, locals := 0 } := cx
  show G Γ σ0 0 0 0 [some (.ref h), none, none] []
  have hF : mFr ad h σ0 σ0 := mFr.rf
  have J12 : ∀ (e : Int) (σ : hS), e = bz (decide (S 23 0 = 0)) → mat (gdA Γ) ad σ h S → mFr ad h σ0 σ → G Γ σ 0 0 12 [some (.ref h), none, none] [.int (iI e)] := by
    intro e σ he hm hF
    subst he
    refine z_is_3_1 (pc := 12) cx dX7_isQuiet_12 ?_
    refine z_iconst (pc := 13) cx dX7_isQuiet_13 ?_
    refine z_is_3_2 (pc := 14) cx dX7_isQuiet_14 ?_
    have J15 : ∀ (n w : Nat) (σ : hS), w + n = 6 → mat (gdA Γ) ad σ h S → mFr ad h σ0 σ → G Γ σ 0 0 15 [some (.ref h), some (.int (iI (bz (decide (S 23 0 = 0) && allN w fun l => decide (S 29 (l : Int) = 0))))), some (.int (iI ((w : Int))))] [] := by
      intro n
      induction n using Nat.strongRecOn with
      | _ n ih =>
      intro w σ hwn hm hF
      refine z_il_3_2 (pc := 15) cx dX7_isQuiet_15 ?_
      refine z_bipush (pc := 16) cx rfl dX7_isQuiet_16 ?_
      refine z_icmp_ge (pc := 18) (tgt := 46) cx (by omega) (by decide) dX7_isQuiet_18 (fun c_18 => ?_) (fun c_18 => ?_)
      · obtain rfl : w = 6 := by omega
        refine z_il_3_1 (pc := 46) cx dX7_isQuiet_46 ?_
        exact (z_retb (pc := 47) (b := quietF S) cx rx (by decide) (by decide) dX7_isQuiet_47 rfl ⟨rfl, hm, hF⟩)
      · skip
        have J39 : ∀ (e : Int) (σ : hS), e = bz (decide (S 23 0 = 0) && allN (w + 1) fun l => decide (S 29 (l : Int) = 0)) → mat (gdA Γ) ad σ h S → mFr ad h σ0 σ → G Γ σ 0 0 39 [some (.ref h), some (.int (iI (bz (decide (S 23 0 = 0) && allN w fun l => decide (S 29 (l : Int) = 0))))), some (.int (iI ((w : Int))))] [.int (iI e)] := by
          intro e σ he hm hF
          subst he
          refine z_is_3_1 (pc := 39) cx dX7_isQuiet_39 ?_
          refine z_ii_3_2 (pc := 40) cx dX7_isQuiet_40 ?_
          refine g_goto (pc := 43) (tgt := 15) cx (by decide) dX7_isQuiet_43 ?_
          exact ih (n - 1) (by omega) (w + 1) σ (by omega) hm hF
        have hbw := hb (w : Int) (by omega) (by omega)
        refine z_il_3_1 (pc := 21) cx dX7_isQuiet_21 ?_
        refine z_if_eq (pc := 22) (tgt := 38) cx (by have := bz_r (decide (S 23 0 = 0) && allN w fun l => decide (S 29 (l : Int) = 0)); omega) (by decide) dX7_isQuiet_22 (fun c_22 => ?_) (fun c_22 => ?_)
        · skip
          refine z_iconst (pc := 38) cx dX7_isQuiet_38 ?_
          exact J39 _ σ (by
            rw [allN, ← Bool.and_assoc]
            first
            | (rw [bz_0.mp c_22]; rfl)
            | (rw [decide_eq_false c_31, Bool.and_false]; rfl)) hm hF
        · skip
          refine z_al_3_0 (pc := 25) cx dX7_isQuiet_25 ?_
          refine m_get (pc := 26) cx hm fl_X7_83 rfl dX7_isQuiet_26 ?_
          refine z_il_3_2 (pc := 29) cx dX7_isQuiet_29 ?_
          refine m_iald (pc := 30) (k := 29) (L := 6) cx hm ⟨rfl, rfl, by decide, by decide⟩ dX7_isQuiet_30 (by omega) ?_
          refine z_if_ne (pc := 31) (tgt := 38) cx (by omega) (by decide) dX7_isQuiet_31 (fun c_31 => ?_) (fun c_31 => ?_)
          · skip
            refine z_iconst (pc := 38) cx dX7_isQuiet_38 ?_
            exact J39 _ σ (by
              rw [allN, ← Bool.and_assoc]
              first
              | (rw [bz_0.mp c_22]; rfl)
              | (rw [decide_eq_false c_31, Bool.and_false]; rfl)) hm hF
          · skip
            refine z_iconst (pc := 34) cx dX7_isQuiet_34 ?_
            refine g_goto (pc := 35) (tgt := 39) cx (by decide) dX7_isQuiet_35 ?_
            exact J39 _ σ (by rw [allN, ← Bool.and_assoc, bz_n0.mp c_22, decide_eq_true c_31]; rfl) hm hF
    refine g_l (J15 6 0 σ rfl hm hF) ?_
    simp [allN]
  refine z_al_3_0 (pc := 0) cx dX7_isQuiet_0 ?_
  refine m_get (pc := 1) cx hm fl_X7_138 rfl dX7_isQuiet_1 ?_
  refine z_if_ne (pc := 4) (tgt := 11) cx (by omega) (by decide) dX7_isQuiet_4 (fun c_4 => ?_) (fun c_4 => ?_)
  · skip
    refine z_iconst (pc := 11) cx dX7_isQuiet_11 ?_
    exact J12 _ σ0 (by rw [decide_eq_false c_4]; rfl) hm hF
  · skip
    refine z_iconst (pc := 7) cx dX7_isQuiet_7 ?_
    refine g_goto (pc := 8) (tgt := 12) cx (by decide) dX7_isQuiet_8 ?_
    exact J12 _ σ0 (by rw [decide_eq_true c_4]; rfl) hm hF
