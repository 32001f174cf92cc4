/-! the law's loop and its start -/
theorem hup_uni {σ : hS} {q : Nat} {e : va_E} (h : σ q = none) : hup σ q e = uni σ (one q e) := funext fun a => by
  by_cases z : a = q
  · subst z
    rw [hup_s, uni_n h, one_s]
  · rw [hup_n z]
    cases h1 : σ a with
    | some e1 => rw [uni_l h1]
    | none => rw [uni_n h1, one_n z]
theorem uni_out {σ1 σ2 : hS} {q : Nat} {e : va_E} (hd : dis σ2 σ1) (h : uni σ2 σ1 q = none) : hup (uni σ2 σ1) q e = uni (uni σ1 (one q e)) σ2 ∧ dis (uni σ1 (one q e)) σ2 ∧ σ1 q = none := by
  have h2 : σ2 q = none := by
    cases z : σ2 q with
    | none => rfl
    | some e1 => rw [uni_l z] at h; cases h
  have h1 : σ1 q = none := by rw [uni_n h2] at h; exact h
  refine ⟨funext fun a => ?_, fun a => ?_, h1⟩
  · by_cases z : a = q
    · subst z
      rw [hup_s, uni_l (uni_r (dis_one2 h1) one_s)]
    · rw [hup_n z]
      cases y1 : σ1 a with
      | some e1 => rw [uni_l (uni_l y1), uni_r hd y1]
      | none =>
        rw [uni_n (σ1 := uni σ1 (one q e)) (by rw [uni_n y1, one_n z])]
        cases y2 : σ2 a with
        | some e2 => rw [uni_l y2]
        | none => rw [uni_n y2, y1]
  · by_cases z : a = q
    · subst z; exact Or.inr h2
    · rcases hd a with y | y
      · exact Or.inr y
      · exact Or.inl (by rw [uni_n y, one_n z])
theorem m0_n {k : Nat} (h : k ≠ 7) (e : Int) : m0S k e = 0 := if_neg (fun z => h z.1)
theorem sm_init : SM (fun _ _ => 0) m0S (-1) (fun _ _ _ => 0) (-1) (fun _ _ _ => 0) (-1) (fun _ _ _ => 0) := by
  have fl : FL m0S = [] := (fl_nil (by rw [m0_n (by decide)]; decide)).mpr (m0_n (by decide) 0)
  refine ⟨⟨⟨(m0_n (by decide) 0).symm, by rw [m0_n (by decide)]; decide⟩, SCH_none (by decide), SCH_none (by decide), fun i hi => by omega, fun i _ _ => ?_, fun l _ => ?_, ⟨by rw [m0_n (by decide)]; decide, fun x hx => by rw [fl] at hx; exact absurd hx List.not_mem_nil, fun i => by unfold flS; rw [fl]; exact List.Pairwise.nil⟩, fun l _ _ h => absurd (m0_n (by decide) l) h⟩, SCH_none (by decide), fun l _ _ => ?_, ⟨(m0_n (by decide) 0).symm, by rw [m0_n (by decide)]; decide⟩, ⟨(m0_n (by decide) 0).symm, ⟨by decide, by decide⟩, fun _ _ _ => by show (0 : Int) ≤ 0 ∧ (0 : Int) ≤ 32; decide⟩, fun i _ hi => by rw [m0_n (by decide)] at hi; omega⟩
  · rw [m0_n (by decide), m0_n (by decide), m0_n (by decide)]; decide
  · unfold PR
    rw [m0_n (k := 26) (by decide), m0_n (k := 27) (by decide), m0_n (k := 29) (by decide), m0_n (k := 30) (by decide)]
    exact ⟨⟨rfl, rfl, rfl, rfl⟩, ⟨Or.inl rfl, by decide, by decide⟩, fun j a b => by omega⟩
  · rw [m0_n (by decide)]; exact ⟨rfl, by decide, by decide, rfl⟩
theorem ws_init {dA : Nat → ClassId} {cd : Nat → Nat} {σ : hS} (hc : cat dA cd σ (fun _ _ => 0) (fun _ _ => none)) : WS dA cd σ m0S 0 := by
  refine ⟨_, _, -1, _, -1, _, -1, _, hc, sm_init, Or.inl ⟨rfl, rfl⟩, ⟨Or.inl ⟨rfl, rfl⟩, Or.inl ⟨rfl, rfl⟩, fun i hi => absurd hi (by show ¬ i < (-1 : Int).toNat; omega)⟩, fun i hi => ?_, fun i _ => Or.inl rfl, by rw [m0_n (by decide)]; decide⟩
  rw [m0_n (by decide)] at hi
  omega
section GLOOP
variable {lc : Launch} {Γ : gC} {cd ad : Nat → Nat} {b L x h o : Nat} {xs : Nat → Int32}
set_option maxRecDepth 100000 in
set_option maxHeartbeats 4000000 in
theorem law_loop (cx : CX lc Γ cL_law RL 7 room_1) (hX : LXt Γ b L xs) (hL : L ≤ 3584) (hst : lc.stackTraces = false) (hx : x = cd 0) (hret : ∀ σ k n ls, k ≤ 807546 → n ≤ 6673467 → G Γ σ k n 1067 ls [.int (iI 1)]) : ∀ (z j : Nat) (σ : hS) (v5 v6 : Option Value), j + z = 512 → LI (gdA Γ) cd ad h o σ (200 * (j : Int)) → G Γ σ (64 + 30 * j) (649 + 120 * j) 23 [some (.ref b), some (.ref x), some (.ref h), some (.ref o), some (.int (iI (7 * (j : Int)))), v5, v6] [] := by
  intro z
  induction z with
  | zero =>
    intro j σ v5 v6 hj hw
    refine g_iload (pc := 23) (i := 4) cx rfl dL_law_23 ?_
    refine g_aload_n (pc := 25) (q := 0) (i := 0) cx rfl rfl dL_law_25 ?_
    refine g_slen (pc := 26) cx hX dL_law_26 ?_
    refine z_bipush (pc := 27) cx rfl dL_law_27 ?_
    refine z_isub (pc := 29) cx dL_law_29 ?_
    refine z_icmp_gt (pc := 30) (tgt := 1066) cx ⟨by omega, by omega⟩ (by decide) dL_law_30 (fun c => ?_) (fun c => ?_)
    · refine z_iconst (pc := 1066) cx dL_law_1066 ?_
      exact hret _ _ _ _ (by omega) (by omega)
    · omega
  | succ z ih =>
    intro j σ v5 v6 hj hw
    refine g_iload (pc := 23) (i := 4) cx rfl dL_law_23 ?_
    refine g_aload_n (pc := 25) (q := 0) (i := 0) cx rfl rfl dL_law_25 ?_
    refine g_slen (pc := 26) cx hX dL_law_26 ?_
    refine z_bipush (pc := 27) cx rfl dL_law_27 ?_
    refine z_isub (pc := 29) cx dL_law_29 ?_
    refine z_icmp_gt (pc := 30) (tgt := 1066) cx ⟨by omega, by omega⟩ (by decide) dL_law_30 (fun c => ?_) (fun c => ?_)
    · refine z_iconst (pc := 1066) cx dL_law_1066 ?_
      exact hret _ _ _ _ (by omega) (by omega)
    have hk : ∀ σ2 u5 u6, LI (gdA Γ) cd ad h o σ2 (200 * (j : Int) + 200) → G Γ σ2 (64 + 30 * j + 30) (649 + 120 * j + 120) 1060 [some (.ref b), some (.ref x), some (.ref h), some (.ref o), some (.int (iI (7 * (j : Int)))), u5, u6] [] := by
      intro σ2 u5 u6 hl
      refine z_iinc (pc := 1060) (i := 4) cx rfl dL_law_1060 ?_
      show G Γ _ _ _ 1063 [some (.ref b), some (.ref x), some (.ref h), some (.ref o), some (.int (iI (7 * (j : Int) + 7))), u5, u6] []
      rw [show 7 * (j : Int) + 7 = 7 * ((j + 1 : Nat) : Int) by omega]
      refine g_goto (pc := 1063) (tgt := 23) cx (by decide) dL_law_1063 ?_
      refine g_widen (k := 64 + 30 * (j + 1)) (n := 649 + 120 * (j + 1)) (by omega) (by omega) ?_
      refine ih (j + 1) σ2 u5 u6 (by omega) ?_
      rw [show 200 * ((j + 1 : Nat) : Int) = 200 * (j : Int) + 200 by omega]
      exact hl
    refine g_aload_n (pc := 33) (q := 0) (i := 0) cx rfl rfl dL_law_33 ?_
    refine g_iload (pc := 34) (i := 4) cx rfl dL_law_34 ?_
    refine g_scr (pc := 36) cx hX hL (by omega) dL_law_36 ?_
    refine z_bipush (pc := 37) cx rfl dL_law_37 ?_
    refine g_iand (pc := 39) cx dL_law_39 ?_
    rw [show iI (xs (7 * (j : Int)).toNat).toInt &&& iI 15 = iI ((xs (7 * (j : Int)).toNat).toInt % 16) from iI_mask 4 (by decide) (t32 _)]
    have hw16 : 0 ≤ (xs (7 * (j : Int)).toNat).toInt % 16 ∧ (xs (7 * (j : Int)).toNat).toInt % 16 < 16 := by omega
    generalize (xs (7 * (j : Int)).toNat).toInt % 16 = w at hw16 ⊢
    have hw : LI (gdA Γ) cd ad h o σ (200 * (j : Int)) := hw
    rcases (show w = 0 ∨ w = 1 ∨ w = 2 ∨ w = 3 ∨ w = 4 ∨ w = 5 ∨ w = 6 ∨ w = 7 ∨ w = 8 ∨ w = 9 ∨ w = 10 ∨ w = 11 ∨ w = 12 ∨ w = 13 ∨ w = 14 ∨ w = 15 by omega) with rfl | rfl | rfl | rfl | rfl | rfl | rfl | rfl | rfl | rfl | rfl | rfl | rfl | rfl | rfl | rfl
    · exact z_tswIn (pc := 40) (a := 0) (off := 80) (tgt := 120) cx dL_law_40 (by decide) (by decide) rfl (by decide) (lc_delay cx hX hL hst hx (by omega) (by omega) (by omega) (by omega) hw hk)
    · exact z_tswIn (pc := 40) (a := 1) (off := 128) (tgt := 168) cx dL_law_40 (by decide) (by decide) rfl (by decide) (lc_stream cx hX hL hst hx (by omega) (by omega) (by omega) (by omega) hw hk)
    · exact z_tswIn (pc := 40) (a := 2) (off := 246) (tgt := 286) cx dL_law_40 (by decide) (by decide) rfl (by decide) (lc_clear cx hX hL hst hx (by omega) (by omega) (by omega) (by omega) hw hk)
    · exact z_tswIn (pc := 40) (a := 3) (off := 257) (tgt := 297) cx dL_law_40 (by decide) (by decide) rfl (by decide) (lc_build cx hX hL hst hx (by omega) (by omega) (by omega) (by omega) hw hk)
    · exact z_tswIn (pc := 40) (a := 4) (off := 313) (tgt := 353) cx dL_law_40 (by decide) (by decide) rfl (by decide) (lc_tries cx hX hL hst hx (by omega) (by omega) (by omega) (by omega) hw hk)
    · exact z_tswIn (pc := 40) (a := 5) (off := 326) (tgt := 366) cx dL_law_40 (by decide) (by decide) rfl (by decide) (lc_offset cx hX hL hst hx (by omega) (by omega) (by omega) (by omega) hw hk)
    · exact z_tswIn (pc := 40) (a := 6) (off := 382) (tgt := 422) cx dL_law_40 (by decide) (by decide) rfl (by decide) (lc_gate cx hX hL hst hx (by omega) (by omega) (by omega) (by omega) hw hk)
    · exact z_tswIn (pc := 40) (a := 7) (off := 450) (tgt := 490) cx dL_law_40 (by decide) (by decide) rfl (by decide) (lc_activate cx hX hL hst hx (by omega) (by omega) (by omega) (by omega) hw hk)
    · exact z_tswIn (pc := 40) (a := 8) (off := 474) (tgt := 514) cx dL_law_40 (by decide) (by decide) rfl (by decide) (lc_tick cx hX hL hst hx (by omega) (by omega) (by omega) (by omega) hw hk)
    · exact z_tswIn (pc := 40) (a := 9) (off := 530) (tgt := 570) cx dL_law_40 (by decide) (by decide) rfl (by decide) (lc_talk cx hX hL hst hx (by omega) (by omega) (by omega) (by omega) hw hk)
    · exact z_tswIn (pc := 40) (a := 10) (off := 606) (tgt := 646) cx dL_law_40 (by decide) (by decide) rfl (by decide) (lc_unblock cx hX hL hst hx (by omega) (by omega) (by omega) (by omega) hw hk)
    · exact z_tswIn (pc := 40) (a := 11) (off := 669) (tgt := 709) cx dL_law_40 (by decide) (by decide) rfl (by decide) (lc_cut cx hX hL hst hx (by omega) (by omega) (by omega) (by omega) hw hk)
    · exact z_tswIn (pc := 40) (a := 12) (off := 760) (tgt := 800) cx dL_law_40 (by decide) (by decide) rfl (by decide) (lc_babble cx hX hL hst hx (by omega) (by omega) (by omega) (by omega) hw hk)
    · exact z_tswIn (pc := 40) (a := 13) (off := 828) (tgt := 868) cx dL_law_40 (by decide) (by decide) rfl (by decide) (lc_told cx hX hL hst hx (by omega) (by omega) (by omega) (by omega) hw hk)
    · exact z_tswIn (pc := 40) (a := 14) (off := 896) (tgt := 936) cx dL_law_40 (by decide) (by decide) rfl (by decide) (lc_link cx hX hL hst hx (by omega) (by omega) (by omega) (by omega) hw hk)
    · exact z_tswIn (pc := 40) (a := 15) (off := 964) (tgt := 1004) cx dL_law_40 (by decide) (by decide) rfl (by decide) (lc_streams cx hX hL hst hx (by omega) (by omega) (by omega) (by omega) hw hk)
theorem dfX7 : ∀ j, j < 31 → defaultValue (gty 7 j) = vp_V [.int (iI 0), .null, .int (iI 0), .null, .null, .null, .null, .null, .null, .null, .null, .null, .null, .int (iI 0), .null, .int (iI 0), .null, .null, .null, .null, .null, .null, .null, .int (iI 0), .null, .null, .null, .null, .null, .null, .null] j := fun j hj => by
  have h : j = 0 ∨ j = 1 ∨ j = 2 ∨ j = 3 ∨ j = 4 ∨ j = 5 ∨ j = 6 ∨ j = 7 ∨ j = 8 ∨ j = 9 ∨ j = 10 ∨ j = 11 ∨ j = 12 ∨ j = 13 ∨ j = 14 ∨ j = 15 ∨ j = 16 ∨ j = 17 ∨ j = 18 ∨ j = 19 ∨ j = 20 ∨ j = 21 ∨ j = 22 ∨ j = 23 ∨ j = 24 ∨ j = 25 ∨ j = 26 ∨ j = 27 ∨ j = 28 ∨ j = 29 ∨ j = 30 := by omega
  rcases h with rfl | rfl | rfl | rfl | rfl | rfl | rfl | rfl | rfl | rfl | rfl | rfl | rfl | rfl | rfl | rfl | rfl | rfl | rfl | rfl | rfl | rfl | rfl | rfl | rfl | rfl | rfl | rfl | rfl | rfl | rfl <;> rfl
set_option maxRecDepth 100000 in
set_option maxHeartbeats 4000000 in
theorem law_start (cx : CX lc Γ cL_law RL 7 room_1) (hX : LXt Γ b L xs) (hL : L ≤ 3584) (hst : lc.stackTraces = false) (hret : ∀ σ k n ls, k ≤ 807546 → n ≤ 6673467 → G Γ σ k n 1067 ls [.int (iI 1)]) : G Γ (fun _ => none) 0 0 0 [some (.ref b), none, none, none, none, none, none] [] := by
  refine g_new (pc := 0) (ci := 6) (fs := [.null, .null, .int (iI 0), .null, .null, .null, .null, .null, .null, .int (iI 0)]) cx rfl (TB_at 17 (by decide +kernel) (by decide +kernel)) (TB_at 18 (by decide +kernel) (by decide +kernel)) (TB_at 1 (by decide +kernel) (by decide +kernel)) dfX6 (by decide) (by decide) dL_law_0 (fun q hq => ?_)
  show G Γ _ 1 10 3 _ _
  refine g_dup (pc := 3) cx rfl dL_law_3 ?_
  refine g_callI (pc := 4) (As := []) (rest := [.ref q]) cx lk_L_66 (c_X6_init (hup_s _ _ _)) rfl gy_X6_init ⟨⟨by decide, by decide⟩, by decide, by decide⟩ rfl (Nat.le_of_ble_eq_true rfl) rfl dL_law_4 (fun E σ9 hX9 => hX9.elim) (fun v9 σ1 hX9 => ?_)
  obtain ⟨rfl, cd, hcd0, hc, -, -⟩ := hX9
  show G Γ _ 36 227 7 _ [.ref q]
  refine g_astore_n (pc := 7) (q := 1) (i := 1) cx rfl (by simp) dL_law_7 ?_
  show G Γ _ 36 227 8 [some (.ref b), some (.ref q), none, none, none, none, none] []
  refine g_new (pc := 8) (ci := 7) (fs := [.int (iI 0), .null, .int (iI 0), .null, .null, .null, .null, .null, .null, .null, .null, .null, .null, .int (iI 0), .null, .int (iI 0), .null, .null, .null, .null, .null, .null, .null, .int (iI 0), .null, .null, .null, .null, .null, .null, .null]) cx rfl (TB_at 614 (by decide +kernel) (by decide +kernel)) (TB_at 615 (by decide +kernel) (by decide +kernel)) (TB_at 5 (by decide +kernel) (by decide +kernel)) dfX7 (by decide) (by decide) dL_law_8 (fun q2 hq2 => ?_)
  rw [hup_uni hq2, uni_comm (dis_one2 hq2)]
  show G Γ _ 37 258 11 _ _
  refine g_dup (pc := 11) cx rfl dL_law_11 ?_
  refine g_callI (pc := 12) (As := []) (rest := [.ref q2]) cx lk_L_69 (gM_fr (c_X7_init one_s) (dis_one2 hq2).symm) rfl gy_X7_init ⟨⟨by decide, by decide⟩, by decide, by decide⟩ rfl (Nat.le_of_ble_eq_true rfl) rfl dL_law_12 (fun E σ9 hX9 => by obtain ⟨_, h9, _⟩ := hX9; exact h9.elim) (fun v9 σ9 hX9 => ?_)
  obtain ⟨σ2, ⟨rfl, ad, hm, -, -⟩, rfl, hd⟩ := hX9
  show G Γ _ 63 648 15 _ [.ref q2]
  refine g_astore_n (pc := 15) (q := 2) (i := 2) cx rfl (by simp) dL_law_15 ?_
  show G Γ _ 63 648 16 [some (.ref b), some (.ref q), some (.ref q2), none, none, none, none] []
  refine z_iconst (pc := 16) cx dL_law_16 ?_
  refine g_newa (pc := 17) (atype := .long) (ty := .long) (t := 7) (N := 1) (a0 := (1, .inr (.inl (fun _ => 0)))) cx rfl (TB_at 888 (by decide +kernel) (by decide +kernel)) rfl (nw_long 1) (by decide) rfl (by decide) (by decide) (by decide) dL_law_17 (fun o ho => ?_)
  obtain ⟨e1, e2, e3⟩ := uni_out (e := lo (gdA Γ) (fun _ => 0)) hd ho
  rw [e1]
  show G Γ _ 64 649 19 _ _
  refine g_astore_n (pc := 19) (q := 3) (i := 3) cx rfl (by simp) dL_law_19 ?_
  refine z_iconst (pc := 20) cx dL_law_20 ?_
  refine g_istore (pc := 21) (i := 4) cx (by simp) dL_law_21 ?_
  show G Γ _ 64 649 23 [some (.ref b), some (.ref q), some (.ref q2), some (.ref o), some (.int (iI 0)), none, none] []
  exact law_loop (cd := cd) (ad := ad) cx hX hL hst hcd0.symm hret 512 0 _ none none rfl ⟨σ1, σ2, _, m0S, rfl, e3, e2, ws_init hc, hm⟩
end GLOOP
