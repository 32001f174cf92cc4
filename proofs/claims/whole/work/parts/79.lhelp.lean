/-! the law's helpers (written by program) -/
abbrev lo (dA : Nat → ClassId) (f : Nat → Int64) : va_E := .inl (dA 7, 1, .inr (.inl f))
def lhP (dA : Nat → ClassId) (o : Nat) (σ1 : hS) (th : Int) (K : (Nat → Int64) → hS → Prop) : Option Value → hS → Prop := fun v σ9 => v = some (.int (iI th)) ∧ ∃ (σ9a : hS) (f : Nat → Int64), σ9 = uni σ9a (one o (lo dA f)) ∧ σ9a o = none ∧ (th ≠ 0 → σ9a = σ1) ∧ (th = 0 → K f σ9a)
theorem out_0 {f : Nat → Int64} {x : Int64} : vp_updL f (iI 0).toNatClampNeg x 0 = x := by
  rw [iI_cl (by decide)]
  exact if_pos rfl
set_option maxRecDepth 100000 in
set_option maxHeartbeats 4000000 in
theorem c_L_delay {lc : Launch} {dA : Nat → ClassId} {cd : Nat → Nat} {σ1 : hS} {C : mS} {R : cR} (hst : lc.stackTraces = false) (hc : cat dA cd σ1 C R) {w t : Int} (hw : -2147483648 ≤ w ∧ w ≤ 2147483647) (ht : -2147483648 ≤ t ∧ t ≤ 2147483647) {o : Nat} {f0 : Nat → Int64} (hoo : σ1 o = none) : gM lc dA yL_delay (.codeWith yL_delay cL_delay 4 (some .int) hh_L_delay) { frames := 8, cells := 2, slots := 12, locals := 138 } (uni σ1 (one o (lo dA f0))) [.ref (cd 0), .int (iI w), .int (iI t)] (lhP dA o σ1 (thD w t) fun g s9 => cat dA cd s9 (mw C 1 w t) (R) ∧ cFr cd σ1 s9) nX := by
  refine gM_bodyH (by decide +kernel) (by simp [Value.category]) (Nat.le_of_ble_eq_true rfl) (fun Γ hdA cx rx tx => ?_)
  subst hdA
  have cx : CX lc Γ cL_delay RL 4 { frames := 8, cells := 2, slots := 12, locals := 138 } := cx
  show G Γ _ 0 0 0 [some (.ref (cd 0)), some (.int (iI w)), some (.int (iI t)), none] []
  refine g_aload_n (pc := 0) (q := 0) (i := 0) cx rfl rfl dL_delay_0 ?_
  refine g_iload_n (pc := 1) (q := 1) (i := 1) cx rfl rfl dL_delay_1 ?_
  refine g_iload_n (pc := 2) (q := 2) (i := 2) cx rfl rfl dL_delay_2 ?_
  refine g_callV (pc := 3) (As := [.int (iI w), .int (iI t)]) (rest := []) cx lk_L_7 (gM_fr (c_X6_delay hst hc hw ht) (dis_one2 hoo)) (uni_l hc.x) rfl gy_X6_delay ⟨⟨by decide, by decide⟩, by decide, by decide⟩ rfl (Nat.le_of_ble_eq_true rfl) rfl dL_delay_3 (fun E σ9 hX => ?_) (fun v9 σ9 hX => ?_)
  · obtain ⟨σa, ⟨hE, rfl⟩, rfl, hd⟩ := hX
    rcases hE with ⟨rfl, h1⟩ | ⟨rfl, h1⟩ | ⟨rfl, h1⟩
    · refine gx_catch cx tx [] 0 6 9 13 [(0, 6, 12, 15)] rfl ⟨by decide, by decide⟩ (fun z hz => absurd hz List.not_mem_nil) (by decide) cl_13 (by simp [gExc]) (fun q => ?_)
      refine g_astore_n (pc := 9) (q := 3) (i := 3) cx rfl (by simp) dL_delay_9 ?_
      refine z_iconst (pc := 10) cx dL_delay_10 ?_
      exact z_ret (pc := 11) cx rx (by decide) (by decide) dL_delay_11 ⟨by rw [h1], _, _, rfl, dis_one hd, fun _ => rfl, fun z => absurd (h1.symm.trans z) (by decide)⟩
    · refine gx_catch cx tx [(0, 6, 9, 13)] 0 6 12 15 [] rfl ⟨by decide, by decide⟩ (fun z hz => by
        simp only [List.mem_cons, List.not_mem_nil, or_false] at hz
        rcases hz with rfl
        · exact ⟨by decide, E_112, by simp [gExc], by decide, cl_13⟩) (by decide) cl_15 (by simp [gExc]) (fun q => ?_)
      refine g_astore_n (pc := 12) (q := 3) (i := 3) cx rfl (by simp) dL_delay_12 ?_
      refine z_iconst (pc := 13) cx dL_delay_13 ?_
      exact z_ret (pc := 14) cx rx (by decide) (by decide) dL_delay_14 ⟨by rw [h1], _, _, rfl, dis_one hd, fun _ => rfl, fun z => absurd (h1.symm.trans z) (by decide)⟩
    · exact absurd h1 (by unfold thD; (repeat' split) <;> decide)
  obtain ⟨σa, ⟨hth, rfl, hK⟩, rfl, hd⟩ := hX
  show G Γ _ _ _ 6 _ _
  refine g_goto (pc := 6) (tgt := 15) cx (by decide) dL_delay_6 ?_
  refine z_iconst (pc := 15) cx dL_delay_15 ?_
  exact z_ret (pc := 16) cx rx (by decide) (by decide) dL_delay_16 ⟨by rw [hth], _, _, rfl, dis_one hd, fun z => absurd hth z, fun _ => hK⟩
set_option maxRecDepth 100000 in
set_option maxHeartbeats 4000000 in
theorem c_L_stream {lc : Launch} {dA : Nat → ClassId} {cd : Nat → Nat} {σ1 : hS} {C : mS} {R : cR} (hst : lc.stackTraces = false) (hc : cat dA cd σ1 C R) (hn : 0 ≤ C 0 2 ∧ C 0 2 ≤ 5) {p s d a b c : Int} (hr : ((-2147483648 ≤ p ∧ p ≤ 2147483647) ∧ (-2147483648 ≤ s ∧ s ≤ 2147483647) ∧ (-2147483648 ≤ d ∧ d ≤ 2147483647) ∧ (-2147483648 ≤ a ∧ a ≤ 2147483647) ∧ (-2147483648 ≤ b ∧ b ≤ 2147483647) ∧ (-2147483648 ≤ c ∧ c ≤ 2147483647))) {o : Nat} {f0 : Nat → Int64} (hoo : σ1 o = none) : gM lc dA yL_stream (.codeWith yL_stream cL_stream 9 (some .int) hh_L_stream) { frames := 9, cells := 6, slots := 30, locals := 162 } (uni σ1 (one o (lo dA f0))) [.ref (cd 0), .int (iI p), .int (iI s), .int (iI d), .int (iI a), .int (iI b), .int (iI c), .ref o] (lhP dA o σ1 (thSmn (C 0 2) p s d a b c) fun g s9 => g 0 = (iI (C 0 2)).toInt64 ∧ ∃ (sr : Nat) (P : Int → Int), cat dA cd s9 (mw C 0 2 (C 0 2 + 1)) (rwr R 2 (C 0 2) (some sr)) ∧ cFr cd σ1 s9 ∧ isST dA cd s9 sr p s d (ptL b c) P ∧ ∀ j : Nat, (j : Int) < ptL b c → P (j : Int) = ptP a b c (j : Int)) nX := by
  refine gM_bodyH (by decide +kernel) (by simp [Value.category]) (Nat.le_of_ble_eq_true rfl) (fun Γ hdA cx rx tx => ?_)
  subst hdA
  have cx : CX lc Γ cL_stream RL 9 { frames := 9, cells := 6, slots := 30, locals := 162 } := cx
  show G Γ _ 0 0 0 [some (.ref (cd 0)), some (.int (iI p)), some (.int (iI s)), some (.int (iI d)), some (.int (iI a)), some (.int (iI b)), some (.int (iI c)), some (.ref o), none] []
  refine g_aload (pc := 0) (i := 7) cx rfl dL_stream_0 ?_
  refine z_iconst (pc := 2) cx dL_stream_2 ?_
  refine g_aload_n (pc := 3) (q := 0) (i := 0) cx rfl rfl dL_stream_3 ?_
  refine g_iload_n (pc := 4) (q := 1) (i := 1) cx rfl rfl dL_stream_4 ?_
  refine g_iload_n (pc := 5) (q := 2) (i := 2) cx rfl rfl dL_stream_5 ?_
  refine g_iload_n (pc := 6) (q := 3) (i := 3) cx rfl rfl dL_stream_6 ?_
  refine g_iload (pc := 7) (i := 4) cx rfl dL_stream_7 ?_
  refine g_iload (pc := 9) (i := 5) cx rfl dL_stream_9 ?_
  refine g_iload (pc := 11) (i := 6) cx rfl dL_stream_11 ?_
  refine g_callV (pc := 13) (As := [.int (iI p), .int (iI s), .int (iI d), .int (iI a), .int (iI b), .int (iI c)]) (rest := [.int (iI 0), .ref o]) cx lk_L_17 (gM_fr (c_X6_stream hst hc hn hr) (dis_one2 hoo)) (uni_l hc.x) rfl gy_X6_stream ⟨⟨by decide, by decide⟩, by decide, by decide⟩ rfl (Nat.le_of_ble_eq_true rfl) rfl dL_stream_13 (fun E σ9 hX => ?_) (fun v9 σ9 hX => ?_)
  · obtain ⟨σa, ⟨hE, rfl⟩, rfl, hd⟩ := hX
    rcases hE with ⟨rfl, h1⟩ | ⟨rfl, h1⟩ | ⟨rfl, h1⟩
    · refine gx_catch cx tx [] 0 18 21 13 [(0, 18, 25, 15), (0, 18, 29, 21)] rfl ⟨by decide, by decide⟩ (fun z hz => absurd hz List.not_mem_nil) (by decide) cl_13 (by simp [gExc]) (fun q => ?_)
      refine g_astore (pc := 21) (i := 8) cx (by simp) dL_stream_21 ?_
      refine z_iconst (pc := 23) cx dL_stream_23 ?_
      exact z_ret (pc := 24) cx rx (by decide) (by decide) dL_stream_24 ⟨by rw [h1], _, _, rfl, dis_one hd, fun _ => rfl, fun z => absurd (h1.symm.trans z) (by decide)⟩
    · refine gx_catch cx tx [(0, 18, 21, 13)] 0 18 25 15 [(0, 18, 29, 21)] rfl ⟨by decide, by decide⟩ (fun z hz => by
        simp only [List.mem_cons, List.not_mem_nil, or_false] at hz
        rcases hz with rfl
        · exact ⟨by decide, E_112, by simp [gExc], by decide, cl_13⟩) (by decide) cl_15 (by simp [gExc]) (fun q => ?_)
      refine g_astore (pc := 25) (i := 8) cx (by simp) dL_stream_25 ?_
      refine z_iconst (pc := 27) cx dL_stream_27 ?_
      exact z_ret (pc := 28) cx rx (by decide) (by decide) dL_stream_28 ⟨by rw [h1], _, _, rfl, dis_one hd, fun _ => rfl, fun z => absurd (h1.symm.trans z) (by decide)⟩
    · refine gx_catch cx tx [(0, 18, 21, 13), (0, 18, 25, 15)] 0 18 29 21 [] rfl ⟨by decide, by decide⟩ (fun z hz => by
        simp only [List.mem_cons, List.not_mem_nil, or_false] at hz
        rcases hz with rfl | rfl
        · exact ⟨by decide, E_112, by simp [gExc], by decide, cl_13⟩
        · exact ⟨by decide, E_44, by simp [gExc], by decide, cl_15⟩) (by decide) cl_21 (by simp [gExc]) (fun q => ?_)
      refine g_astore (pc := 29) (i := 8) cx (by simp) dL_stream_29 ?_
      refine z_iconst (pc := 31) cx dL_stream_31 ?_
      exact z_ret (pc := 32) cx rx (by decide) (by decide) dL_stream_32 ⟨by rw [h1], _, _, rfl, dis_one hd, fun _ => rfl, fun z => absurd (h1.symm.trans z) (by decide)⟩
  obtain ⟨σa, ⟨hth, rfl, hK⟩, rfl, hd⟩ := hX
  show G Γ _ _ _ 16 _ (.int (iI _) :: _)
  refine g_i2l (pc := 16) cx dL_stream_16 ?_
  refine g_last (pc := 17) (N := 1) (f := f0) cx (by rw [uni_n (dis_one hd), one_s]) (iI_in (by decide) (by decide)) dL_stream_17 ?_
  rw [hup_one (dis_one hd)]
  refine g_goto (pc := 18) (tgt := 33) cx (by decide) dL_stream_18 ?_
  refine z_iconst (pc := 33) cx dL_stream_33 ?_
  exact z_ret (pc := 34) cx rx (by decide) (by decide) dL_stream_34 ⟨by rw [hth], _, _, rfl, dis_one hd, fun z => absurd hth z, fun _ => ⟨out_0, hK⟩⟩
set_option maxRecDepth 100000 in
set_option maxHeartbeats 4000000 in
theorem c_L_build {lc : Launch} {dA : Nat → ClassId} {cd : Nat → Nat} {σ1 : hS} {C : mS} {R : cR} (hst : lc.stackTraces = false) (hc : cat dA cd σ1 C R) {cn : Nat} (hcn : C 0 2 = (cn : Int)) (hcn5 : cn ≤ 5) {sp ss sd sL : Nat → Int} {sP : Nat → Int → Int} (hs : ∀ i, i < cn → ∃ sr, R 2 (i : Int) = some sr ∧ isST dA cd σ1 sr (sp i) (ss i) (sd i) (sL i) (sP i)) (hsr : ∀ i, i < cn → ((1 ≤ sL i ∧ sL i ≤ 3) ∧ (sp i = 8 ∨ sp i = 16 ∨ sp i = 32) ∧ (1 ≤ ss i ∧ ss i ≤ 4) ∧ (1 ≤ sd i ∧ sd i ≤ 60)) ∧ ∀ j : Nat, (j : Int) < sL i → 0 ≤ sP i (j : Int) ∧ sP i (j : Int) < 6) (hdl : ∀ l, 0 ≤ l → l < 6 → 0 ≤ C 1 l ∧ C 1 l ≤ 9) (hsw : SW C) {al : Int} (hal : -2147483648 ≤ al ∧ al ≤ 2147483647) {o : Nat} {f0 : Nat → Int64} (hoo : σ1 o = none) : gM lc dA yL_build (.codeWith yL_build cL_build 4 (some .int) hh_L_build) { frames := 7, cells := 22, slots := 96, locals := 119 } (uni σ1 (one o (lo dA f0))) [.ref (cd 0), .int (iI al), .ref o] (lhP dA o σ1 (thBd al) fun g s9 => ∃ (Q : Nat → mS) (R9 : cR), (∀ i, i < cn → PSok (Q i) (sp i) (ss i) (sd i) (sL i) (sP i) (C 1) ∧ Q i 7 0 = 0) ∧ g 0 = (iI (srun cn al 40002 (sr0 C) Q 0).2.2).toInt64 ∧ cat dA cd s9 (srun cn al 40002 (sr0 C) Q 0).1 R9 ∧ cFr cd σ1 s9 ∧ (((srun cn al 40002 (sr0 C) Q 0).2.2 = 1 → ∃ a, R9 = rwr R 0 4 (some a) ∧ isSc dA cd s9 a cn (srun cn al 40002 (sr0 C) Q 0).2.1) ∧ ((srun cn al 40002 (sr0 C) Q 0).2.2 ≠ 1 → R9 = R))) nX := by
  refine gM_bodyH (by decide +kernel) (by simp [Value.category]) (Nat.le_of_ble_eq_true rfl) (fun Γ hdA cx rx tx => ?_)
  subst hdA
  have cx : CX lc Γ cL_build RL 4 { frames := 7, cells := 22, slots := 96, locals := 119 } := cx
  show G Γ _ 0 0 0 [some (.ref (cd 0)), some (.int (iI al)), some (.ref o), none] []
  refine g_aload_n (pc := 0) (q := 2) (i := 2) cx rfl rfl dL_build_0 ?_
  refine z_iconst (pc := 1) cx dL_build_1 ?_
  refine g_aload_n (pc := 2) (q := 0) (i := 0) cx rfl rfl dL_build_2 ?_
  refine g_iload_n (pc := 3) (q := 1) (i := 1) cx rfl rfl dL_build_3 ?_
  refine g_callV (pc := 4) (As := [.int (iI al)]) (rest := [.int (iI 0), .ref o]) cx lk_L_23 (gM_fr (c_X6_build hst hc hcn hcn5 hs hsr hdl hsw hal) (dis_one2 hoo)) (uni_l hc.x) rfl gy_X6_build ⟨⟨by decide, by decide⟩, by decide, by decide⟩ rfl (Nat.le_of_ble_eq_true rfl) rfl dL_build_4 (fun E σ9 hX => ?_) (fun v9 σ9 hX => ?_)
  · obtain ⟨σa, ⟨hE, rfl⟩, rfl, hd⟩ := hX
    rcases hE with ⟨rfl, h1⟩ | ⟨rfl, h1⟩ | ⟨rfl, h1⟩
    · refine gx_catch cx tx [] 0 9 12 15 [] rfl ⟨by decide, by decide⟩ (fun z hz => absurd hz List.not_mem_nil) (by decide) cl_15 (by simp [gExc]) (fun q => ?_)
      refine g_astore_n (pc := 12) (q := 3) (i := 3) cx rfl (by simp) dL_build_12 ?_
      refine z_iconst (pc := 13) cx dL_build_13 ?_
      exact z_ret (pc := 14) cx rx (by decide) (by decide) dL_build_14 ⟨by rw [h1], _, _, rfl, dis_one hd, fun _ => rfl, fun z => absurd (h1.symm.trans z) (by decide)⟩
    · exact absurd h1 (by unfold thBd; (repeat' split) <;> decide)
    · exact absurd h1 (by unfold thBd; (repeat' split) <;> decide)
  obtain ⟨σa, ⟨hth, Q, R9, hA, rfl, hK⟩, rfl, hd⟩ := hX
  show G Γ _ _ _ 7 _ (.int (iI _) :: _)
  refine g_i2l (pc := 7) cx dL_build_7 ?_
  refine g_last (pc := 8) (N := 1) (f := f0) cx (by rw [uni_n (dis_one hd), one_s]) (iI_in (by decide) (by decide)) dL_build_8 ?_
  rw [hup_one (dis_one hd)]
  refine g_goto (pc := 9) (tgt := 15) cx (by decide) dL_build_9 ?_
  refine z_iconst (pc := 15) cx dL_build_15 ?_
  exact z_ret (pc := 16) cx rx (by decide) (by decide) dL_build_16 ⟨by rw [hth], _, _, rfl, dis_one hd, fun z => absurd hth z, fun _ => ⟨Q, R9, hA, out_0, hK⟩⟩
set_option maxRecDepth 100000 in
set_option maxHeartbeats 4000000 in
theorem c_L_offset {lc : Launch} {dA : Nat → ClassId} {cd : Nat → Nat} {σ1 : hS} {C : mS} {R : cR} (hst : lc.stackTraces = false) (hc : cat dA cd σ1 C R) {n : Int} {Q : Nat → mS} (hs : scO dA cd σ1 (R 0 4) n Q) {i : Int} (hi : -2147483648 ≤ i ∧ i ≤ 2147483647) {o : Nat} {f0 : Nat → Int64} (hoo : σ1 o = none) : gM lc dA yL_offset (.codeWith yL_offset cL_offset 4 (some .int) hh_L_offset) { frames := 8, cells := 2, slots := 12, locals := 137 } (uni σ1 (one o (lo dA f0))) [.ref (cd 0), .int (iI i), .ref o] (lhP dA o σ1 (thOn n i) fun g s9 => g 0 = (iI (Q i.toNat 7 0)).toInt64 ∧ cat dA cd s9 (C) (R) ∧ cFr cd σ1 s9) nX := by
  refine gM_bodyH (by decide +kernel) (by simp [Value.category]) (Nat.le_of_ble_eq_true rfl) (fun Γ hdA cx rx tx => ?_)
  subst hdA
  have cx : CX lc Γ cL_offset RL 4 { frames := 8, cells := 2, slots := 12, locals := 137 } := cx
  show G Γ _ 0 0 0 [some (.ref (cd 0)), some (.int (iI i)), some (.ref o), none] []
  refine g_aload_n (pc := 0) (q := 2) (i := 2) cx rfl rfl dL_offset_0 ?_
  refine z_iconst (pc := 1) cx dL_offset_1 ?_
  refine g_aload_n (pc := 2) (q := 0) (i := 0) cx rfl rfl dL_offset_2 ?_
  refine g_iload_n (pc := 3) (q := 1) (i := 1) cx rfl rfl dL_offset_3 ?_
  refine g_callV (pc := 4) (As := [.int (iI i)]) (rest := [.int (iI 0), .ref o]) cx lk_L_27 (gM_fr (c_X6_offset hst hc hs hi) (dis_one2 hoo)) (uni_l hc.x) rfl gy_X6_offset ⟨⟨by decide, by decide⟩, by decide, by decide⟩ rfl (Nat.le_of_ble_eq_true rfl) rfl dL_offset_4 (fun E σ9 hX => ?_) (fun v9 σ9 hX => ?_)
  · obtain ⟨σa, ⟨hE, rfl⟩, rfl, hd⟩ := hX
    rcases hE with ⟨rfl, h1⟩ | ⟨rfl, h1⟩ | ⟨rfl, h1⟩
    · refine gx_catch cx tx [] 0 9 12 30 [(0, 9, 15, 13)] rfl ⟨by decide, by decide⟩ (fun z hz => absurd hz List.not_mem_nil) (by decide) cl_30 (by simp [gExc]) (fun q => ?_)
      refine g_astore_n (pc := 12) (q := 3) (i := 3) cx rfl (by simp) dL_offset_12 ?_
      refine z_iconst (pc := 13) cx dL_offset_13 ?_
      exact z_ret (pc := 14) cx rx (by decide) (by decide) dL_offset_14 ⟨by rw [h1], _, _, rfl, dis_one hd, fun _ => rfl, fun z => absurd (h1.symm.trans z) (by decide)⟩
    · refine gx_catch cx tx [(0, 9, 12, 30)] 0 9 15 13 [] rfl ⟨by decide, by decide⟩ (fun z hz => by
        simp only [List.mem_cons, List.not_mem_nil, or_false] at hz
        rcases hz with rfl
        · exact ⟨by decide, E_208, by simp [gExc], by decide, cl_30⟩) (by decide) cl_13 (by simp [gExc]) (fun q => ?_)
      refine g_astore_n (pc := 15) (q := 3) (i := 3) cx rfl (by simp) dL_offset_15 ?_
      refine z_iconst (pc := 16) cx dL_offset_16 ?_
      exact z_ret (pc := 17) cx rx (by decide) (by decide) dL_offset_17 ⟨by rw [h1], _, _, rfl, dis_one hd, fun _ => rfl, fun z => absurd (h1.symm.trans z) (by decide)⟩
    · exact absurd h1 (by unfold thOn; (repeat' split) <;> decide)
  obtain ⟨σa, ⟨hth, rfl, hK⟩, rfl, hd⟩ := hX
  show G Γ _ _ _ 7 _ (.int (iI _) :: _)
  refine g_i2l (pc := 7) cx dL_offset_7 ?_
  refine g_last (pc := 8) (N := 1) (f := f0) cx (by rw [uni_n (dis_one hd), one_s]) (iI_in (by decide) (by decide)) dL_offset_8 ?_
  rw [hup_one (dis_one hd)]
  refine g_goto (pc := 9) (tgt := 18) cx (by decide) dL_offset_9 ?_
  refine z_iconst (pc := 18) cx dL_offset_18 ?_
  exact z_ret (pc := 19) cx rx (by decide) (by decide) dL_offset_19 ⟨by rw [hth], _, _, rfl, dis_one hd, fun z => absurd hth z, fun _ => ⟨out_0, hK⟩⟩
set_option maxRecDepth 100000 in
set_option maxHeartbeats 4000000 in
theorem c_L_gate {lc : Launch} {dA : Nat → ClassId} {cd : Nat → Nat} {σ1 : hS} {C : mS} {R : cR} (hst : lc.stackTraces = false) (hc : cat dA cd σ1 C R) {n : Int} {Q : Nat → mS} (hs : scO dA cd σ1 (R 0 4) n Q) (hq : ∀ i, i < n.toNat → PW (Q i)) {w t : Int} (hw : -2147483648 ≤ w ∧ w ≤ 2147483647) (ht : -2147483648 ≤ t ∧ t ≤ 2147483647) {o : Nat} {f0 : Nat → Int64} (hoo : σ1 o = none) : gM lc dA yL_gate (.codeWith yL_gate cL_gate 5 (some .int) hh_L_gate) { frames := 8, cells := 3, slots := 18, locals := 138 } (uni σ1 (one o (lo dA f0))) [.ref (cd 0), .int (iI w), .int (iI t), .ref o] (lhP dA o σ1 (thGn n w t) fun g s9 => g 0 = (iI (owF n.toNat Q w t)).toInt64 ∧ cat dA cd s9 (C) (R) ∧ cFr cd σ1 s9) nX := by
  refine gM_bodyH (by decide +kernel) (by simp [Value.category]) (Nat.le_of_ble_eq_true rfl) (fun Γ hdA cx rx tx => ?_)
  subst hdA
  have cx : CX lc Γ cL_gate RL 5 { frames := 8, cells := 3, slots := 18, locals := 138 } := cx
  show G Γ _ 0 0 0 [some (.ref (cd 0)), some (.int (iI w)), some (.int (iI t)), some (.ref o), none] []
  refine g_aload_n (pc := 0) (q := 3) (i := 3) cx rfl rfl dL_gate_0 ?_
  refine z_iconst (pc := 1) cx dL_gate_1 ?_
  refine g_aload_n (pc := 2) (q := 0) (i := 0) cx rfl rfl dL_gate_2 ?_
  refine g_iload_n (pc := 3) (q := 1) (i := 1) cx rfl rfl dL_gate_3 ?_
  refine g_iload_n (pc := 4) (q := 2) (i := 2) cx rfl rfl dL_gate_4 ?_
  refine g_callV (pc := 5) (As := [.int (iI w), .int (iI t)]) (rest := [.int (iI 0), .ref o]) cx lk_L_32 (gM_fr (c_X6_gate hst hc hs hq hw ht) (dis_one2 hoo)) (uni_l hc.x) rfl gy_X6_gate ⟨⟨by decide, by decide⟩, by decide, by decide⟩ rfl (Nat.le_of_ble_eq_true rfl) rfl dL_gate_5 (fun E σ9 hX => ?_) (fun v9 σ9 hX => ?_)
  · obtain ⟨σa, ⟨hE, rfl⟩, rfl, hd⟩ := hX
    rcases hE with ⟨rfl, h1⟩ | ⟨rfl, h1⟩ | ⟨rfl, h1⟩
    · refine gx_catch cx tx [] 0 10 13 13 [(0, 10, 17, 15), (0, 10, 21, 30)] rfl ⟨by decide, by decide⟩ (fun z hz => absurd hz List.not_mem_nil) (by decide) cl_13 (by simp [gExc]) (fun q => ?_)
      refine g_astore (pc := 13) (i := 4) cx (by simp) dL_gate_13 ?_
      refine z_iconst (pc := 15) cx dL_gate_15 ?_
      exact z_ret (pc := 16) cx rx (by decide) (by decide) dL_gate_16 ⟨by rw [h1], _, _, rfl, dis_one hd, fun _ => rfl, fun z => absurd (h1.symm.trans z) (by decide)⟩
    · refine gx_catch cx tx [(0, 10, 13, 13)] 0 10 17 15 [(0, 10, 21, 30)] rfl ⟨by decide, by decide⟩ (fun z hz => by
        simp only [List.mem_cons, List.not_mem_nil, or_false] at hz
        rcases hz with rfl
        · exact ⟨by decide, E_112, by simp [gExc], by decide, cl_13⟩) (by decide) cl_15 (by simp [gExc]) (fun q => ?_)
      refine g_astore (pc := 17) (i := 4) cx (by simp) dL_gate_17 ?_
      refine z_iconst (pc := 19) cx dL_gate_19 ?_
      exact z_ret (pc := 20) cx rx (by decide) (by decide) dL_gate_20 ⟨by rw [h1], _, _, rfl, dis_one hd, fun _ => rfl, fun z => absurd (h1.symm.trans z) (by decide)⟩
    · refine gx_catch cx tx [(0, 10, 13, 13), (0, 10, 17, 15)] 0 10 21 30 [] rfl ⟨by decide, by decide⟩ (fun z hz => by
        simp only [List.mem_cons, List.not_mem_nil, or_false] at hz
        rcases hz with rfl | rfl
        · exact ⟨by decide, E_112, by simp [gExc], by decide, cl_13⟩
        · exact ⟨by decide, E_44, by simp [gExc], by decide, cl_15⟩) (by decide) cl_30 (by simp [gExc]) (fun q => ?_)
      refine g_astore (pc := 21) (i := 4) cx (by simp) dL_gate_21 ?_
      refine z_iconst (pc := 23) cx dL_gate_23 ?_
      exact z_ret (pc := 24) cx rx (by decide) (by decide) dL_gate_24 ⟨by rw [h1], _, _, rfl, dis_one hd, fun _ => rfl, fun z => absurd (h1.symm.trans z) (by decide)⟩
  obtain ⟨σa, ⟨hth, rfl, hK⟩, rfl, hd⟩ := hX
  show G Γ _ _ _ 8 _ (.int (iI _) :: _)
  refine g_i2l (pc := 8) cx dL_gate_8 ?_
  refine g_last (pc := 9) (N := 1) (f := f0) cx (by rw [uni_n (dis_one hd), one_s]) (iI_in (by decide) (by decide)) dL_gate_9 ?_
  rw [hup_one (dis_one hd)]
  refine g_goto (pc := 10) (tgt := 25) cx (by decide) dL_gate_10 ?_
  refine z_iconst (pc := 25) cx dL_gate_25 ?_
  exact z_ret (pc := 26) cx rx (by decide) (by decide) dL_gate_26 ⟨by rw [hth], _, _, rfl, dis_one hd, fun z => absurd hth z, fun _ => ⟨out_0, hK⟩⟩
set_option maxRecDepth 100000 in
set_option maxHeartbeats 4000000 in
theorem c_L_activate {lc : Launch} {dA : Nat → ClassId} {cd : Nat → Nat} {σ1 : hS} {C : mS} {R : cR} (hst : lc.stackTraces = false) (hc : cat dA cd σ1 C R) {n : Int} {Q : Nat → mS} (hs : scO dA cd σ1 (R 0 4) n Q) {o : Nat} {f0 : Nat → Int64} (hoo : σ1 o = none) : gM lc dA yL_activate (.codeWith yL_activate cL_activate 2 (some .int) hh_L_activate) { frames := 8, cells := 1, slots := 6, locals := 136 } (uni σ1 (one o (lo dA f0))) [.ref (cd 0)] (lhP dA o σ1 (thAn n) fun g s9 => cat dA cd s9 (C) (rwr R 0 5 (R 0 4)) ∧ cFr cd σ1 s9) nX := by
  refine gM_bodyH (by decide +kernel) (by simp [Value.category]) (Nat.le_of_ble_eq_true rfl) (fun Γ hdA cx rx tx => ?_)
  subst hdA
  have cx : CX lc Γ cL_activate RL 2 { frames := 8, cells := 1, slots := 6, locals := 136 } := cx
  show G Γ _ 0 0 0 [some (.ref (cd 0)), none] []
  refine g_aload_n (pc := 0) (q := 0) (i := 0) cx rfl rfl dL_activate_0 ?_
  refine g_callV (pc := 1) (As := []) (rest := []) cx lk_L_36 (gM_fr (c_X6_activate hst hc hs) (dis_one2 hoo)) (uni_l hc.x) rfl gy_X6_activate ⟨⟨by decide, by decide⟩, by decide, by decide⟩ rfl (Nat.le_of_ble_eq_true rfl) rfl dL_activate_1 (fun E σ9 hX => ?_) (fun v9 σ9 hX => ?_)
  · obtain ⟨σa, ⟨hE, rfl⟩, rfl, hd⟩ := hX
    rcases hE with ⟨rfl, h1⟩ | ⟨rfl, h1⟩ | ⟨rfl, h1⟩
    · refine gx_catch cx tx [] 0 4 7 30 [] rfl ⟨by decide, by decide⟩ (fun z hz => absurd hz List.not_mem_nil) (by decide) cl_30 (by simp [gExc]) (fun q => ?_)
      refine g_astore_n (pc := 7) (q := 1) (i := 1) cx rfl (by simp) dL_activate_7 ?_
      refine z_iconst (pc := 8) cx dL_activate_8 ?_
      exact z_ret (pc := 9) cx rx (by decide) (by decide) dL_activate_9 ⟨by rw [h1], _, _, rfl, dis_one hd, fun _ => rfl, fun z => absurd (h1.symm.trans z) (by decide)⟩
    · exact absurd h1 (by unfold thAn; (repeat' split) <;> decide)
    · exact absurd h1 (by unfold thAn; (repeat' split) <;> decide)
  obtain ⟨σa, ⟨hth, rfl, hK⟩, rfl, hd⟩ := hX
  show G Γ _ _ _ 4 _ _
  refine g_goto (pc := 4) (tgt := 10) cx (by decide) dL_activate_4 ?_
  refine z_iconst (pc := 10) cx dL_activate_10 ?_
  exact z_ret (pc := 11) cx rx (by decide) (by decide) dL_activate_11 ⟨by rw [hth], _, _, rfl, dis_one hd, fun z => absurd hth z, fun _ => hK⟩
set_option maxRecDepth 100000 in
set_option maxHeartbeats 4000000 in
theorem c_L_tick {lc : Launch} {dA : Nat → ClassId} {cd : Nat → Nat} {σ1 : hS} {C : mS} {R : cR} (hst : lc.stackTraces = false) (hc : cat dA cd σ1 C R) {n na : Int} {Q Qa : Nat → mS} (hfr : frH dA cd σ1 R n Q na Qa) {k : Int} (hk : -2147483648 ≤ k ∧ k ≤ 2147483647) (hN : thT k = 0 → ∀ j : Nat, j < k.toNat → NC Qa (itX Qa j (C, n, Q, na))) {o : Nat} {f0 : Nat → Int64} (hoo : σ1 o = none) : gM lc dA yL_tick (.codeWith yL_tick cL_tick 4 (some .int) hh_L_tick) { frames := 7, cells := 1, slots := 6, locals := 157 } (uni σ1 (one o (lo dA f0))) [.ref (cd 0), .int (iI k), .ref o] (lhP dA o σ1 (thT k) fun g s9 => ∃ R9, g 0 = (iI ((itX Qa k.toNat (C, n, Q, na)).1 0 9)).toInt64 ∧ cat dA cd s9 (itX Qa k.toNat (C, n, Q, na)).1 R9 ∧ cFr cd σ1 s9 ∧ frH dA cd s9 R9 (itX Qa k.toNat (C, n, Q, na)).2.1 (itX Qa k.toNat (C, n, Q, na)).2.2.1 (itX Qa k.toNat (C, n, Q, na)).2.2.2 Qa ∧ R9 0 4 = R 0 4 ∧ R9 2 = R 2) nX := by
  refine gM_bodyH (by decide +kernel) (by simp [Value.category]) (Nat.le_of_ble_eq_true rfl) (fun Γ hdA cx rx tx => ?_)
  subst hdA
  have cx : CX lc Γ cL_tick RL 4 { frames := 7, cells := 1, slots := 6, locals := 157 } := cx
  show G Γ _ 0 0 0 [some (.ref (cd 0)), some (.int (iI k)), some (.ref o), none] []
  refine g_aload_n (pc := 0) (q := 2) (i := 2) cx rfl rfl dL_tick_0 ?_
  refine z_iconst (pc := 1) cx dL_tick_1 ?_
  refine g_aload_n (pc := 2) (q := 0) (i := 0) cx rfl rfl dL_tick_2 ?_
  refine g_iload_n (pc := 3) (q := 1) (i := 1) cx rfl rfl dL_tick_3 ?_
  refine g_callV (pc := 4) (As := [.int (iI k)]) (rest := [.int (iI 0), .ref o]) cx lk_L_39 (gM_fr (c_X6_tick hst hc hfr hk hN) (dis_one2 hoo)) (uni_l hc.x) rfl gy_X6_tick ⟨⟨by decide, by decide⟩, by decide, by decide⟩ rfl (Nat.le_of_ble_eq_true rfl) rfl dL_tick_4 (fun E σ9 hX => ?_) (fun v9 σ9 hX => ?_)
  · obtain ⟨σa, ⟨hE, rfl⟩, rfl, hd⟩ := hX
    rcases hE with ⟨rfl, h1⟩ | ⟨rfl, h1⟩ | ⟨rfl, h1⟩
    · refine gx_catch cx tx [] 0 9 12 15 [] rfl ⟨by decide, by decide⟩ (fun z hz => absurd hz List.not_mem_nil) (by decide) cl_15 (by simp [gExc]) (fun q => ?_)
      refine g_astore_n (pc := 12) (q := 3) (i := 3) cx rfl (by simp) dL_tick_12 ?_
      refine z_iconst (pc := 13) cx dL_tick_13 ?_
      exact z_ret (pc := 14) cx rx (by decide) (by decide) dL_tick_14 ⟨by rw [h1], _, _, rfl, dis_one hd, fun _ => rfl, fun z => absurd (h1.symm.trans z) (by decide)⟩
    · exact absurd h1 (by unfold thT; (repeat' split) <;> decide)
    · exact absurd h1 (by unfold thT; (repeat' split) <;> decide)
  obtain ⟨σa, ⟨hth, R9, rfl, hK⟩, rfl, hd⟩ := hX
  show G Γ _ _ _ 7 _ (.int (iI _) :: _)
  refine g_i2l (pc := 7) cx dL_tick_7 ?_
  refine g_last (pc := 8) (N := 1) (f := f0) cx (by rw [uni_n (dis_one hd), one_s]) (iI_in (by decide) (by decide)) dL_tick_8 ?_
  rw [hup_one (dis_one hd)]
  refine g_goto (pc := 9) (tgt := 15) cx (by decide) dL_tick_9 ?_
  refine z_iconst (pc := 15) cx dL_tick_15 ?_
  exact z_ret (pc := 16) cx rx (by decide) (by decide) dL_tick_16 ⟨by rw [hth], _, _, rfl, dis_one hd, fun z => absurd hth z, fun _ => ⟨R9, out_0, hK⟩⟩
set_option maxRecDepth 100000 in
set_option maxHeartbeats 4000000 in
theorem c_L_talk {lc : Launch} {dA : Nat → ClassId} {cd : Nat → Nat} {σ1 : hS} {C : mS} {R : cR} (hst : lc.stackTraces = false) (hc : cat dA cd σ1 C R) {n : Int} {Q : Nat → mS} (hs : scO dA cd σ1 (R 0 6) n Q) {i on t : Int} (hi : -2147483648 ≤ i ∧ i ≤ 2147483647) (ho : on = 0 ∨ on = 1) (ht : -2147483648 ≤ t ∧ t ≤ 2147483647) {o : Nat} {f0 : Nat → Int64} (hoo : σ1 o = none) : gM lc dA yL_talk (.codeWith yL_talk cL_talk 5 (some .int) hh_L_talk) { frames := 8, cells := 2, slots := 12, locals := 140 } (uni σ1 (one o (lo dA f0))) [.ref (cd 0), .int (iI i), .int (iI on), .int (iI t)] (lhP dA o σ1 (thKn n i t) fun g s9 => cat dA cd s9 (mw (mw C (13 + i.toNat) 1 on) (13 + i.toNat) 2 t) (R) ∧ cFr cd σ1 s9) nX := by
  refine gM_bodyH (by decide +kernel) (by simp [Value.category]) (Nat.le_of_ble_eq_true rfl) (fun Γ hdA cx rx tx => ?_)
  subst hdA
  have cx : CX lc Γ cL_talk RL 5 { frames := 8, cells := 2, slots := 12, locals := 140 } := cx
  show G Γ _ 0 0 0 [some (.ref (cd 0)), some (.int (iI i)), some (.int (iI on)), some (.int (iI t)), none] []
  refine g_aload_n (pc := 0) (q := 0) (i := 0) cx rfl rfl dL_talk_0 ?_
  refine g_iload_n (pc := 1) (q := 1) (i := 1) cx rfl rfl dL_talk_1 ?_
  refine g_iload_n (pc := 2) (q := 2) (i := 2) cx rfl rfl dL_talk_2 ?_
  refine g_iload_n (pc := 3) (q := 3) (i := 3) cx rfl rfl dL_talk_3 ?_
  refine g_callV (pc := 4) (As := [.int (iI i), .int (iI on), .int (iI t)]) (rest := []) cx lk_L_42 (gM_fr (c_X6_talk hst hc hs hi ho ht) (dis_one2 hoo)) (uni_l hc.x) rfl gy_X6_talk ⟨⟨by decide, by decide⟩, by decide, by decide⟩ rfl (Nat.le_of_ble_eq_true rfl) rfl dL_talk_4 (fun E σ9 hX => ?_) (fun v9 σ9 hX => ?_)
  · obtain ⟨σa, ⟨hE, rfl⟩, rfl, hd⟩ := hX
    rcases hE with ⟨rfl, h1⟩ | ⟨rfl, h1⟩ | ⟨rfl, h1⟩
    · refine gx_catch cx tx [] 0 7 10 13 [(0, 7, 14, 15)] rfl ⟨by decide, by decide⟩ (fun z hz => absurd hz List.not_mem_nil) (by decide) cl_13 (by simp [gExc]) (fun q => ?_)
      refine g_astore (pc := 10) (i := 4) cx (by simp) dL_talk_10 ?_
      refine z_iconst (pc := 12) cx dL_talk_12 ?_
      exact z_ret (pc := 13) cx rx (by decide) (by decide) dL_talk_13 ⟨by rw [h1], _, _, rfl, dis_one hd, fun _ => rfl, fun z => absurd (h1.symm.trans z) (by decide)⟩
    · refine gx_catch cx tx [(0, 7, 10, 13)] 0 7 14 15 [] rfl ⟨by decide, by decide⟩ (fun z hz => by
        simp only [List.mem_cons, List.not_mem_nil, or_false] at hz
        rcases hz with rfl
        · exact ⟨by decide, E_112, by simp [gExc], by decide, cl_13⟩) (by decide) cl_15 (by simp [gExc]) (fun q => ?_)
      refine g_astore (pc := 14) (i := 4) cx (by simp) dL_talk_14 ?_
      refine z_iconst (pc := 16) cx dL_talk_16 ?_
      exact z_ret (pc := 17) cx rx (by decide) (by decide) dL_talk_17 ⟨by rw [h1], _, _, rfl, dis_one hd, fun _ => rfl, fun z => absurd (h1.symm.trans z) (by decide)⟩
    · exact absurd h1 (by unfold thKn; (repeat' split) <;> decide)
  obtain ⟨σa, ⟨hth, rfl, hK⟩, rfl, hd⟩ := hX
  show G Γ _ _ _ 7 _ _
  refine g_goto (pc := 7) (tgt := 18) cx (by decide) dL_talk_7 ?_
  refine z_iconst (pc := 18) cx dL_talk_18 ?_
  exact z_ret (pc := 19) cx rx (by decide) (by decide) dL_talk_19 ⟨by rw [hth], _, _, rfl, dis_one hd, fun z => absurd hth z, fun _ => hK⟩
set_option maxRecDepth 100000 in
set_option maxHeartbeats 4000000 in
theorem c_L_unblock {lc : Launch} {dA : Nat → ClassId} {cd : Nat → Nat} {σ1 : hS} {C : mS} {R : cR} (hst : lc.stackTraces = false) (hc : cat dA cd σ1 C R) {n : Int} {Q : Nat → mS} (hs : scO dA cd σ1 (R 0 6) n Q) {i : Int} (hi : -2147483648 ≤ i ∧ i ≤ 2147483647) (hb : ∀ i, i < 5 → C (13 + i) 3 = 0 ∨ C (13 + i) 3 = 1) {o : Nat} {f0 : Nat → Int64} (hoo : σ1 o = none) : gM lc dA yL_unblock (.codeWith yL_unblock cL_unblock 4 (some .int) hh_L_unblock) { frames := 8, cells := 1, slots := 6, locals := 139 } (uni σ1 (one o (lo dA f0))) [.ref (cd 0), .int (iI i), .ref o] (lhP dA o σ1 (thUn n i) fun g s9 => g 0 = (iI (bz (decide (C (13 + i.toNat) 3 ≠ 0)))).toInt64 ∧ cat dA cd s9 (mw C (13 + i.toNat) 3 0) (R) ∧ cFr cd σ1 s9) nX := by
  refine gM_bodyH (by decide +kernel) (by simp [Value.category]) (Nat.le_of_ble_eq_true rfl) (fun Γ hdA cx rx tx => ?_)
  subst hdA
  have cx : CX lc Γ cL_unblock RL 4 { frames := 8, cells := 1, slots := 6, locals := 139 } := cx
  show G Γ _ 0 0 0 [some (.ref (cd 0)), some (.int (iI i)), some (.ref o), none] []
  refine g_aload_n (pc := 0) (q := 2) (i := 2) cx rfl rfl dL_unblock_0 ?_
  refine z_iconst (pc := 1) cx dL_unblock_1 ?_
  refine g_aload_n (pc := 2) (q := 0) (i := 0) cx rfl rfl dL_unblock_2 ?_
  refine g_iload_n (pc := 3) (q := 1) (i := 1) cx rfl rfl dL_unblock_3 ?_
  refine g_callV (pc := 4) (As := [.int (iI i)]) (rest := [.int (iI 0), .ref o]) cx lk_L_46 (gM_fr (c_X6_unblock hst hc hs hi hb) (dis_one2 hoo)) (uni_l hc.x) rfl gy_X6_unblock ⟨⟨by decide, by decide⟩, by decide, by decide⟩ rfl (Nat.le_of_ble_eq_true rfl) rfl dL_unblock_4 (fun E σ9 hX => ?_) (fun v9 σ9 hX => ?_)
  · obtain ⟨σa, ⟨hE, rfl⟩, rfl, hd⟩ := hX
    rcases hE with ⟨rfl, h1⟩ | ⟨rfl, h1⟩ | ⟨rfl, h1⟩
    · refine gx_catch cx tx [] 0 16 19 13 [] rfl ⟨by decide, by decide⟩ (fun z hz => absurd hz List.not_mem_nil) (by decide) cl_13 (by simp [gExc]) (fun q => ?_)
      refine g_astore_n (pc := 19) (q := 3) (i := 3) cx rfl (by simp) dL_unblock_19 ?_
      refine z_iconst (pc := 20) cx dL_unblock_20 ?_
      exact z_ret (pc := 21) cx rx (by decide) (by decide) dL_unblock_21 ⟨by rw [h1], _, _, rfl, dis_one hd, fun _ => rfl, fun z => absurd (h1.symm.trans z) (by decide)⟩
    · exact absurd h1 (by unfold thUn; (repeat' split) <;> decide)
    · exact absurd h1 (by unfold thUn; (repeat' split) <;> decide)
  obtain ⟨σa, ⟨hth, rfl, hK⟩, rfl, hd⟩ := hX
  show G Γ _ _ _ 7 _ (.int (iI _) :: _)
  refine z_if_eq (pc := 7) (tgt := 14) cx (by have := bz_r (decide (C (13 + i.toNat) 3 ≠ 0)); omega) (by decide) dL_unblock_7 (fun cb => ?_) (fun cb => ?_)
  · skip
    refine g_lconst (pc := 14) cx rfl dL_unblock_14 ?_
    refine g_last (pc := 15) (N := 1) (f := f0) cx (by rw [uni_n (dis_one hd), one_s]) (iI_in (by decide) (by decide)) dL_unblock_15 ?_
    rw [hup_one (dis_one hd)]
    refine g_goto (pc := 16) (tgt := 22) cx (by decide) dL_unblock_16 ?_
    refine z_iconst (pc := 22) cx dL_unblock_22 ?_
    exact z_ret (pc := 23) cx rx (by decide) (by decide) dL_unblock_23 ⟨by rw [hth], _, _, rfl, dis_one hd, fun z => absurd hth z, fun _ => ⟨out_0.trans (by rw [cb]; rfl), hK⟩⟩
  · skip
    refine g_lconst (pc := 10) cx rfl dL_unblock_10 ?_
    refine g_goto (pc := 11) (tgt := 15) cx (by decide) dL_unblock_11 ?_
    refine g_last (pc := 15) (N := 1) (f := f0) cx (by rw [uni_n (dis_one hd), one_s]) (iI_in (by decide) (by decide)) dL_unblock_15 ?_
    rw [hup_one (dis_one hd)]
    refine g_goto (pc := 16) (tgt := 22) cx (by decide) dL_unblock_16 ?_
    refine z_iconst (pc := 22) cx dL_unblock_22 ?_
    exact z_ret (pc := 23) cx rx (by decide) (by decide) dL_unblock_23 ⟨by rw [hth], _, _, rfl, dis_one hd, fun z => absurd hth z, fun _ => ⟨out_0.trans (by rw [show bz (decide (C (13 + i.toNat) 3 ≠ 0)) = 1 by have := bz_r (decide (C (13 + i.toNat) 3 ≠ 0)); omega]; rfl), hK⟩⟩
set_option maxRecDepth 100000 in
set_option maxHeartbeats 4000000 in
theorem c_L_cut {lc : Launch} {dA : Nat → ClassId} {cd : Nat → Nat} {σ1 : hS} {C : mS} {R : cR} (hst : lc.stackTraces = false) (hc : cat dA cd σ1 C R) {n : Int} {Q : Nat → mS} (hs : scO dA cd σ1 (R 0 6) n Q) (ht0 : 0 ≤ C 0 9 ∧ C 0 9 ≤ 1000000) (hk : tkH dA cd σ1 C R n.toNat Q) (hb0 : ∀ l, l < 6 → C (24 + l) 0 = 0 ∨ C (24 + l) 0 = 1) {w on : Int} (hw : -2147483648 ≤ w ∧ w ≤ 2147483647) (ho : on = 0 ∨ on = 1) {o : Nat} {f0 : Nat → Int64} (hoo : σ1 o = none) : gM lc dA yL_cut (.codeWith yL_cut cL_cut 5 (some .int) hh_L_cut) { frames := 8, cells := 1, slots := 6, locals := 139 } (uni σ1 (one o (lo dA f0))) [.ref (cd 0), .int (iI w), .int (iI on), .ref o] (lhP dA o σ1 (thC w) fun g s9 => g 0 = (iI (bz (decide (C (24 + w.toNat) 0 ≠ on)))).toInt64 ∧ cat dA cd s9 (cuC C n Q w on) (R) ∧ cFr cd σ1 s9) nX := by
  refine gM_bodyH (by decide +kernel) (by simp [Value.category]) (Nat.le_of_ble_eq_true rfl) (fun Γ hdA cx rx tx => ?_)
  subst hdA
  have cx : CX lc Γ cL_cut RL 5 { frames := 8, cells := 1, slots := 6, locals := 139 } := cx
  show G Γ _ 0 0 0 [some (.ref (cd 0)), some (.int (iI w)), some (.int (iI on)), some (.ref o), none] []
  refine g_aload_n (pc := 0) (q := 3) (i := 3) cx rfl rfl dL_cut_0 ?_
  refine z_iconst (pc := 1) cx dL_cut_1 ?_
  refine g_aload_n (pc := 2) (q := 0) (i := 0) cx rfl rfl dL_cut_2 ?_
  refine g_iload_n (pc := 3) (q := 1) (i := 1) cx rfl rfl dL_cut_3 ?_
  refine g_iload_n (pc := 4) (q := 2) (i := 2) cx rfl rfl dL_cut_4 ?_
  refine g_callV (pc := 5) (As := [.int (iI w), .int (iI on)]) (rest := [.int (iI 0), .ref o]) cx lk_L_50 (gM_fr (c_X6_cut hst hc hs ht0 hk hb0 hw ho) (dis_one2 hoo)) (uni_l hc.x) rfl gy_X6_cut ⟨⟨by decide, by decide⟩, by decide, by decide⟩ rfl (Nat.le_of_ble_eq_true rfl) rfl dL_cut_5 (fun E σ9 hX => ?_) (fun v9 σ9 hX => ?_)
  · obtain ⟨σa, ⟨hE, rfl⟩, rfl, hd⟩ := hX
    rcases hE with ⟨rfl, h1⟩ | ⟨rfl, h1⟩ | ⟨rfl, h1⟩
    · refine gx_catch cx tx [] 0 17 20 13 [] rfl ⟨by decide, by decide⟩ (fun z hz => absurd hz List.not_mem_nil) (by decide) cl_13 (by simp [gExc]) (fun q => ?_)
      refine g_astore (pc := 20) (i := 4) cx (by simp) dL_cut_20 ?_
      refine z_iconst (pc := 22) cx dL_cut_22 ?_
      exact z_ret (pc := 23) cx rx (by decide) (by decide) dL_cut_23 ⟨by rw [h1], _, _, rfl, dis_one hd, fun _ => rfl, fun z => absurd (h1.symm.trans z) (by decide)⟩
    · exact absurd h1 (by unfold thC; (repeat' split) <;> decide)
    · exact absurd h1 (by unfold thC; (repeat' split) <;> decide)
  obtain ⟨σa, ⟨hth, rfl, hK⟩, rfl, hd⟩ := hX
  show G Γ _ _ _ 8 _ (.int (iI _) :: _)
  refine z_if_eq (pc := 8) (tgt := 15) cx (by have := bz_r (decide (C (24 + w.toNat) 0 ≠ on)); omega) (by decide) dL_cut_8 (fun cb => ?_) (fun cb => ?_)
  · skip
    refine g_lconst (pc := 15) cx rfl dL_cut_15 ?_
    refine g_last (pc := 16) (N := 1) (f := f0) cx (by rw [uni_n (dis_one hd), one_s]) (iI_in (by decide) (by decide)) dL_cut_16 ?_
    rw [hup_one (dis_one hd)]
    refine g_goto (pc := 17) (tgt := 24) cx (by decide) dL_cut_17 ?_
    refine z_iconst (pc := 24) cx dL_cut_24 ?_
    exact z_ret (pc := 25) cx rx (by decide) (by decide) dL_cut_25 ⟨by rw [hth], _, _, rfl, dis_one hd, fun z => absurd hth z, fun _ => ⟨out_0.trans (by rw [cb]; rfl), hK⟩⟩
  · skip
    refine g_lconst (pc := 11) cx rfl dL_cut_11 ?_
    refine g_goto (pc := 12) (tgt := 16) cx (by decide) dL_cut_12 ?_
    refine g_last (pc := 16) (N := 1) (f := f0) cx (by rw [uni_n (dis_one hd), one_s]) (iI_in (by decide) (by decide)) dL_cut_16 ?_
    rw [hup_one (dis_one hd)]
    refine g_goto (pc := 17) (tgt := 24) cx (by decide) dL_cut_17 ?_
    refine z_iconst (pc := 24) cx dL_cut_24 ?_
    exact z_ret (pc := 25) cx rx (by decide) (by decide) dL_cut_25 ⟨by rw [hth], _, _, rfl, dis_one hd, fun z => absurd hth z, fun _ => ⟨out_0.trans (by rw [show bz (decide (C (24 + w.toNat) 0 ≠ on)) = 1 by have := bz_r (decide (C (24 + w.toNat) 0 ≠ on)); omega]; rfl), hK⟩⟩
set_option maxRecDepth 100000 in
set_option maxHeartbeats 4000000 in
theorem c_L_babble {lc : Launch} {dA : Nat → ClassId} {cd : Nat → Nat} {σ1 : hS} {C : mS} {R : cR} (hst : lc.stackTraces = false) (hc : cat dA cd σ1 C R) (hp : ∀ l, l < 6 → PtW C l) {w t : Int} (hw : -2147483648 ≤ w ∧ w ≤ 2147483647) (ht : -2147483648 ≤ t ∧ t ≤ 2147483647) {o : Nat} {f0 : Nat → Int64} (hoo : σ1 o = none) : gM lc dA yL_babble (.codeWith yL_babble cL_babble 5 (some .int) hh_L_babble) { frames := 8, cells := 3, slots := 18, locals := 139 } (uni σ1 (one o (lo dA f0))) [.ref (cd 0), .int (iI w), .int (iI t), .ref o] (lhP dA o σ1 (thBn (C (24 + w.toNat) 1) w t) fun g s9 => g 0 = (iI (C (24 + w.toNat) 1 + 1)).toInt64 ∧ cat dA cd s9 (apF C w.toNat t) (R) ∧ cFr cd σ1 s9) nX := by
  refine gM_bodyH (by decide +kernel) (by simp [Value.category]) (Nat.le_of_ble_eq_true rfl) (fun Γ hdA cx rx tx => ?_)
  subst hdA
  have cx : CX lc Γ cL_babble RL 5 { frames := 8, cells := 3, slots := 18, locals := 139 } := cx
  show G Γ _ 0 0 0 [some (.ref (cd 0)), some (.int (iI w)), some (.int (iI t)), some (.ref o), none] []
  refine g_aload_n (pc := 0) (q := 3) (i := 3) cx rfl rfl dL_babble_0 ?_
  refine z_iconst (pc := 1) cx dL_babble_1 ?_
  refine g_aload_n (pc := 2) (q := 0) (i := 0) cx rfl rfl dL_babble_2 ?_
  refine g_iload_n (pc := 3) (q := 1) (i := 1) cx rfl rfl dL_babble_3 ?_
  refine g_iload_n (pc := 4) (q := 2) (i := 2) cx rfl rfl dL_babble_4 ?_
  refine g_callV (pc := 5) (As := [.int (iI w), .int (iI t)]) (rest := [.int (iI 0), .ref o]) cx lk_L_54 (gM_fr (c_X6_babble hst hc hp hw ht) (dis_one2 hoo)) (uni_l hc.x) rfl gy_X6_babble ⟨⟨by decide, by decide⟩, by decide, by decide⟩ rfl (Nat.le_of_ble_eq_true rfl) rfl dL_babble_5 (fun E σ9 hX => ?_) (fun v9 σ9 hX => ?_)
  · obtain ⟨σa, ⟨hE, rfl⟩, rfl, hd⟩ := hX
    rcases hE with ⟨rfl, h1⟩ | ⟨rfl, h1⟩ | ⟨rfl, h1⟩
    · refine gx_catch cx tx [] 0 10 13 13 [(0, 10, 17, 15), (0, 10, 21, 21)] rfl ⟨by decide, by decide⟩ (fun z hz => absurd hz List.not_mem_nil) (by decide) cl_13 (by simp [gExc]) (fun q => ?_)
      refine g_astore (pc := 13) (i := 4) cx (by simp) dL_babble_13 ?_
      refine z_iconst (pc := 15) cx dL_babble_15 ?_
      exact z_ret (pc := 16) cx rx (by decide) (by decide) dL_babble_16 ⟨by rw [h1], _, _, rfl, dis_one hd, fun _ => rfl, fun z => absurd (h1.symm.trans z) (by decide)⟩
    · refine gx_catch cx tx [(0, 10, 13, 13)] 0 10 17 15 [(0, 10, 21, 21)] rfl ⟨by decide, by decide⟩ (fun z hz => by
        simp only [List.mem_cons, List.not_mem_nil, or_false] at hz
        rcases hz with rfl
        · exact ⟨by decide, E_112, by simp [gExc], by decide, cl_13⟩) (by decide) cl_15 (by simp [gExc]) (fun q => ?_)
      refine g_astore (pc := 17) (i := 4) cx (by simp) dL_babble_17 ?_
      refine z_iconst (pc := 19) cx dL_babble_19 ?_
      exact z_ret (pc := 20) cx rx (by decide) (by decide) dL_babble_20 ⟨by rw [h1], _, _, rfl, dis_one hd, fun _ => rfl, fun z => absurd (h1.symm.trans z) (by decide)⟩
    · refine gx_catch cx tx [(0, 10, 13, 13), (0, 10, 17, 15)] 0 10 21 21 [] rfl ⟨by decide, by decide⟩ (fun z hz => by
        simp only [List.mem_cons, List.not_mem_nil, or_false] at hz
        rcases hz with rfl | rfl
        · exact ⟨by decide, E_112, by simp [gExc], by decide, cl_13⟩
        · exact ⟨by decide, E_44, by simp [gExc], by decide, cl_15⟩) (by decide) cl_21 (by simp [gExc]) (fun q => ?_)
      refine g_astore (pc := 21) (i := 4) cx (by simp) dL_babble_21 ?_
      refine z_iconst (pc := 23) cx dL_babble_23 ?_
      exact z_ret (pc := 24) cx rx (by decide) (by decide) dL_babble_24 ⟨by rw [h1], _, _, rfl, dis_one hd, fun _ => rfl, fun z => absurd (h1.symm.trans z) (by decide)⟩
  obtain ⟨σa, ⟨hth, rfl, hK⟩, rfl, hd⟩ := hX
  show G Γ _ _ _ 8 _ (.int (iI _) :: _)
  refine g_i2l (pc := 8) cx dL_babble_8 ?_
  refine g_last (pc := 9) (N := 1) (f := f0) cx (by rw [uni_n (dis_one hd), one_s]) (iI_in (by decide) (by decide)) dL_babble_9 ?_
  rw [hup_one (dis_one hd)]
  refine g_goto (pc := 10) (tgt := 25) cx (by decide) dL_babble_10 ?_
  refine z_iconst (pc := 25) cx dL_babble_25 ?_
  exact z_ret (pc := 26) cx rx (by decide) (by decide) dL_babble_26 ⟨by rw [hth], _, _, rfl, dis_one hd, fun z => absurd hth z, fun _ => ⟨out_0, hK⟩⟩
set_option maxRecDepth 100000 in
set_option maxHeartbeats 4000000 in
theorem c_L_told {lc : Launch} {dA : Nat → ClassId} {cd : Nat → Nat} {σ1 : hS} {C : mS} {R : cR} (hst : lc.stackTraces = false) (hc : cat dA cd σ1 C R) {n : Int} {Q : Nat → mS} (hs : scO dA cd σ1 (R 0 6) n Q) (hk : ∀ i, i < 5 → C (13 + i) 3 = 0 ∨ C (13 + i) 3 = 1) {i u : Int} (hi : -2147483648 ≤ i ∧ i ≤ 2147483647) (hu : -2147483648 ≤ u ∧ u ≤ 2147483647) {o : Nat} {f0 : Nat → Int64} (hoo : σ1 o = none) : gM lc dA yL_told (.codeWith yL_told cL_told 5 (some .int) hh_L_told) { frames := 8, cells := 2, slots := 12, locals := 140 } (uni σ1 (one o (lo dA f0))) [.ref (cd 0), .int (iI i), .int (iI u), .ref o] (lhP dA o σ1 (thTon n i u) fun g s9 => g 0 = (iI (toC C i u)).toInt64 ∧ cat dA cd s9 (C) (R) ∧ cFr cd σ1 s9) nX := by
  refine gM_bodyH (by decide +kernel) (by simp [Value.category]) (Nat.le_of_ble_eq_true rfl) (fun Γ hdA cx rx tx => ?_)
  subst hdA
  have cx : CX lc Γ cL_told RL 5 { frames := 8, cells := 2, slots := 12, locals := 140 } := cx
  show G Γ _ 0 0 0 [some (.ref (cd 0)), some (.int (iI i)), some (.int (iI u)), some (.ref o), none] []
  refine g_aload_n (pc := 0) (q := 3) (i := 3) cx rfl rfl dL_told_0 ?_
  refine z_iconst (pc := 1) cx dL_told_1 ?_
  refine g_aload_n (pc := 2) (q := 0) (i := 0) cx rfl rfl dL_told_2 ?_
  refine g_iload_n (pc := 3) (q := 1) (i := 1) cx rfl rfl dL_told_3 ?_
  refine g_iload_n (pc := 4) (q := 2) (i := 2) cx rfl rfl dL_told_4 ?_
  refine g_callV (pc := 5) (As := [.int (iI i), .int (iI u)]) (rest := [.int (iI 0), .ref o]) cx lk_L_57 (gM_fr (c_X6_told hst hc hs hk hi hu) (dis_one2 hoo)) (uni_l hc.x) rfl gy_X6_told ⟨⟨by decide, by decide⟩, by decide, by decide⟩ rfl (Nat.le_of_ble_eq_true rfl) rfl dL_told_5 (fun E σ9 hX => ?_) (fun v9 σ9 hX => ?_)
  · obtain ⟨σa, ⟨hE, rfl⟩, rfl, hd⟩ := hX
    rcases hE with ⟨rfl, h1⟩ | ⟨rfl, h1⟩ | ⟨rfl, h1⟩
    · refine gx_catch cx tx [] 0 10 13 13 [] rfl ⟨by decide, by decide⟩ (fun z hz => absurd hz List.not_mem_nil) (by decide) cl_13 (by simp [gExc]) (fun q => ?_)
      refine g_astore (pc := 13) (i := 4) cx (by simp) dL_told_13 ?_
      refine z_iconst (pc := 15) cx dL_told_15 ?_
      exact z_ret (pc := 16) cx rx (by decide) (by decide) dL_told_16 ⟨by rw [h1], _, _, rfl, dis_one hd, fun _ => rfl, fun z => absurd (h1.symm.trans z) (by decide)⟩
    · exact absurd h1 (by unfold thTon; (repeat' split) <;> decide)
    · exact absurd h1 (by unfold thTon; (repeat' split) <;> decide)
  obtain ⟨σa, ⟨hth, rfl, hK⟩, rfl, hd⟩ := hX
  show G Γ _ _ _ 8 _ (.int (iI _) :: _)
  refine g_i2l (pc := 8) cx dL_told_8 ?_
  refine g_last (pc := 9) (N := 1) (f := f0) cx (by rw [uni_n (dis_one hd), one_s]) (iI_in (by decide) (by decide)) dL_told_9 ?_
  rw [hup_one (dis_one hd)]
  refine g_goto (pc := 10) (tgt := 17) cx (by decide) dL_told_10 ?_
  refine z_iconst (pc := 17) cx dL_told_17 ?_
  exact z_ret (pc := 18) cx rx (by decide) (by decide) dL_told_18 ⟨by rw [hth], _, _, rfl, dis_one hd, fun z => absurd hth z, fun _ => ⟨out_0, hK⟩⟩
set_option maxRecDepth 100000 in
set_option maxHeartbeats 4000000 in
theorem c_L_link {lc : Launch} {dA : Nat → ClassId} {cd : Nat → Nat} {σ1 : hS} {C : mS} {R : cR} (hst : lc.stackTraces = false) (hc : cat dA cd σ1 C R) {n : Int} {Q : Nat → mS} (hs : scO dA cd σ1 (R 0 6) n Q) (ht0 : 0 ≤ C 0 9 ∧ C 0 9 ≤ 1000000) (hk : tkH dA cd σ1 C R n.toNat Q) (hb3 : ∀ l, l < 6 → 0 ≤ C (24 + l) 3 ∧ C (24 + l) 3 ≤ 8) (hb0 : ∀ l, l < 6 → C (24 + l) 0 = 0 ∨ C (24 + l) 0 = 1) {w u : Int} (hw : -2147483648 ≤ w ∧ w ≤ 2147483647) (hu : -2147483648 ≤ u ∧ u ≤ 2147483647) {o : Nat} {f0 : Nat → Int64} (hoo : σ1 o = none) : gM lc dA yL_link (.codeWith yL_link cL_link 5 (some .int) hh_L_link) { frames := 8, cells := 2, slots := 12, locals := 139 } (uni σ1 (one o (lo dA f0))) [.ref (cd 0), .int (iI w), .int (iI u), .ref o] (lhP dA o σ1 (thL w u) fun g s9 => g 0 = (iI (liC C n Q w u)).toInt64 ∧ cat dA cd s9 (C) (R) ∧ cFr cd σ1 s9) nX := by
  refine gM_bodyH (by decide +kernel) (by simp [Value.category]) (Nat.le_of_ble_eq_true rfl) (fun Γ hdA cx rx tx => ?_)
  subst hdA
  have cx : CX lc Γ cL_link RL 5 { frames := 8, cells := 2, slots := 12, locals := 139 } := cx
  show G Γ _ 0 0 0 [some (.ref (cd 0)), some (.int (iI w)), some (.int (iI u)), some (.ref o), none] []
  refine g_aload_n (pc := 0) (q := 3) (i := 3) cx rfl rfl dL_link_0 ?_
  refine z_iconst (pc := 1) cx dL_link_1 ?_
  refine g_aload_n (pc := 2) (q := 0) (i := 0) cx rfl rfl dL_link_2 ?_
  refine g_iload_n (pc := 3) (q := 1) (i := 1) cx rfl rfl dL_link_3 ?_
  refine g_iload_n (pc := 4) (q := 2) (i := 2) cx rfl rfl dL_link_4 ?_
  refine g_callV (pc := 5) (As := [.int (iI w), .int (iI u)]) (rest := [.int (iI 0), .ref o]) cx lk_L_60 (gM_fr (c_X6_link hst hc hs ht0 hk hb3 hb0 hw hu) (dis_one2 hoo)) (uni_l hc.x) rfl gy_X6_link ⟨⟨by decide, by decide⟩, by decide, by decide⟩ rfl (Nat.le_of_ble_eq_true rfl) rfl dL_link_5 (fun E σ9 hX => ?_) (fun v9 σ9 hX => ?_)
  · obtain ⟨σa, ⟨hE, rfl⟩, rfl, hd⟩ := hX
    rcases hE with ⟨rfl, h1⟩ | ⟨rfl, h1⟩ | ⟨rfl, h1⟩
    · refine gx_catch cx tx [] 0 10 13 13 [] rfl ⟨by decide, by decide⟩ (fun z hz => absurd hz List.not_mem_nil) (by decide) cl_13 (by simp [gExc]) (fun q => ?_)
      refine g_astore (pc := 13) (i := 4) cx (by simp) dL_link_13 ?_
      refine z_iconst (pc := 15) cx dL_link_15 ?_
      exact z_ret (pc := 16) cx rx (by decide) (by decide) dL_link_16 ⟨by rw [h1], _, _, rfl, dis_one hd, fun _ => rfl, fun z => absurd (h1.symm.trans z) (by decide)⟩
    · exact absurd h1 (by unfold thL; (repeat' split) <;> decide)
    · exact absurd h1 (by unfold thL; (repeat' split) <;> decide)
  obtain ⟨σa, ⟨hth, rfl, hK⟩, rfl, hd⟩ := hX
  show G Γ _ _ _ 8 _ (.int (iI _) :: _)
  refine g_i2l (pc := 8) cx dL_link_8 ?_
  refine g_last (pc := 9) (N := 1) (f := f0) cx (by rw [uni_n (dis_one hd), one_s]) (iI_in (by decide) (by decide)) dL_link_9 ?_
  rw [hup_one (dis_one hd)]
  refine g_goto (pc := 10) (tgt := 17) cx (by decide) dL_link_10 ?_
  refine z_iconst (pc := 17) cx dL_link_17 ?_
  exact z_ret (pc := 18) cx rx (by decide) (by decide) dL_link_18 ⟨by rw [hth], _, _, rfl, dis_one hd, fun z => absurd hth z, fun _ => ⟨out_0, hK⟩⟩
set_option maxRecDepth 100000 in
set_option maxHeartbeats 4000000 in
theorem c_L_streams {lc : Launch} {dA : Nat → ClassId} {cd : Nat → Nat} {σ1 : hS} {C : mS} {R : cR} (hst : lc.stackTraces = false) (hc : cat dA cd σ1 C R) {n4 n5 n6 : Int} {Q4 Q5 Q6 : Nat → mS} (h4 : scO dA cd σ1 (R 0 4) n4 Q4) (h5 : scO dA cd σ1 (R 0 5) n5 Q5) (h6 : scO dA cd σ1 (R 0 6) n6 Q6) {u : Int} (hu : -2147483648 ≤ u ∧ u ≤ 2147483647) {o : Nat} {f0 : Nat → Int64} (hoo : σ1 o = none) : gM lc dA yL_streams (.codeWith yL_streams cL_streams 4 (some .int) hh_L_streams) { frames := 7, cells := 1, slots := 6, locals := 117 } (uni σ1 (one o (lo dA f0))) [.ref (cd 0), .int (iI u), .ref o] (lhP dA o σ1 (thSt u) fun g s9 => g 0 = (iI (stC C n4 n5 n6 u)).toInt64 ∧ cat dA cd s9 (C) (R) ∧ cFr cd σ1 s9) nX := by
  refine gM_bodyH (by decide +kernel) (by simp [Value.category]) (Nat.le_of_ble_eq_true rfl) (fun Γ hdA cx rx tx => ?_)
  subst hdA
  have cx : CX lc Γ cL_streams RL 4 { frames := 7, cells := 1, slots := 6, locals := 117 } := cx
  show G Γ _ 0 0 0 [some (.ref (cd 0)), some (.int (iI u)), some (.ref o), none] []
  refine g_aload_n (pc := 0) (q := 2) (i := 2) cx rfl rfl dL_streams_0 ?_
  refine z_iconst (pc := 1) cx dL_streams_1 ?_
  refine g_aload_n (pc := 2) (q := 0) (i := 0) cx rfl rfl dL_streams_2 ?_
  refine g_iload_n (pc := 3) (q := 1) (i := 1) cx rfl rfl dL_streams_3 ?_
  refine g_callV (pc := 4) (As := [.int (iI u)]) (rest := [.int (iI 0), .ref o]) cx lk_L_63 (gM_fr (c_X6_streams hst hc h4 h5 h6 hu) (dis_one2 hoo)) (uni_l hc.x) rfl gy_X6_streams ⟨⟨by decide, by decide⟩, by decide, by decide⟩ rfl (Nat.le_of_ble_eq_true rfl) rfl dL_streams_4 (fun E σ9 hX => ?_) (fun v9 σ9 hX => ?_)
  · obtain ⟨σa, ⟨hE, rfl⟩, rfl, hd⟩ := hX
    rcases hE with ⟨rfl, h1⟩ | ⟨rfl, h1⟩ | ⟨rfl, h1⟩
    · refine gx_catch cx tx [] 0 9 12 13 [] rfl ⟨by decide, by decide⟩ (fun z hz => absurd hz List.not_mem_nil) (by decide) cl_13 (by simp [gExc]) (fun q => ?_)
      refine g_astore_n (pc := 12) (q := 3) (i := 3) cx rfl (by simp) dL_streams_12 ?_
      refine z_iconst (pc := 13) cx dL_streams_13 ?_
      exact z_ret (pc := 14) cx rx (by decide) (by decide) dL_streams_14 ⟨by rw [h1], _, _, rfl, dis_one hd, fun _ => rfl, fun z => absurd (h1.symm.trans z) (by decide)⟩
    · exact absurd h1 (by unfold thSt; (repeat' split) <;> decide)
    · exact absurd h1 (by unfold thSt; (repeat' split) <;> decide)
  obtain ⟨σa, ⟨hth, rfl, hK⟩, rfl, hd⟩ := hX
  show G Γ _ _ _ 7 _ (.int (iI _) :: _)
  refine g_i2l (pc := 7) cx dL_streams_7 ?_
  refine g_last (pc := 8) (N := 1) (f := f0) cx (by rw [uni_n (dis_one hd), one_s]) (iI_in (by decide) (by decide)) dL_streams_8 ?_
  rw [hup_one (dis_one hd)]
  refine g_goto (pc := 9) (tgt := 15) cx (by decide) dL_streams_9 ?_
  refine z_iconst (pc := 15) cx dL_streams_15 ?_
  exact z_ret (pc := 16) cx rx (by decide) (by decide) dL_streams_16 ⟨by rw [hth], _, _, rfl, dis_one hd, fun z => absurd hth z, fun _ => ⟨out_0, hK⟩⟩
