/-! what each helper does, said of both worlds -/
section WOPS
variable {lc : Launch} {dA : Nat → ClassId} {cd : Nat → Nat} {σ1 : hS} {S : mS} {tm : Int} {o : Nat} {f0 : Nat → Int64}
/-- nothing of the class has changed -/
theorem WS_0 {S' C : mS} {R : cR} {n4 na n : Int} {Q4 Qa Q : Nat → mS} {th : Int} (hc : cat dA cd σ1 C R) (hm : SM C S' n4 Q4 na Qa n Q) (h4 : scO dA cd σ1 (R 0 4) n4 Q4) (hfr : frH dA cd σ1 R n Q na Qa) (hs : STM dA cd σ1 R S) (hr : rw0 S S' th) (hk : K3 C) (ht : S 15 0 ≤ tm) : WS dA cd σ1 S' (tm + 200) := WS_same hc cFr.refl' hm h4 hfr hs hr.2.1 hk (by rw [hr.2.2]; omega)
theorem WS_1 {σ' : hS} {S' C' : mS} {R : cR} {n4 na n : Int} {Q4 Qa Q : Nat → mS} {th : Int} (hc : cat dA cd σ' C' R) (hF : cFr cd σ1 σ') (hm : SM C' S' n4 Q4 na Qa n Q) (h4 : scO dA cd σ1 (R 0 4) n4 Q4) (hfr : frH dA cd σ1 R n Q na Qa) (hs : STM dA cd σ1 R S) (hr : rw0 S S' th) (hk : K3 C') (ht : S 15 0 ≤ tm) : WS dA cd σ' S' (tm + 200) := WS_same hc hF hm h4 hfr hs hr.2.1 hk (by rw [hr.2.2]; omega)
theorem w_delay (hst : lc.stackTraces = false) {x : Nat} (hx : x = cd 0) (hw : WS dA cd σ1 S tm) (hoo : σ1 o = none) {w t : Int} (hw1 : -2147483648 ≤ w ∧ w ≤ 2147483647) (ht1 : -2147483648 ≤ t ∧ t ≤ 2147483647) : gM lc dA yL_delay (.codeWith yL_delay cL_delay 4 (some .int) hh_L_delay) { frames := 8, cells := 2, slots := 12, locals := 138 } (uni σ1 (one o (lo dA f0))) [.ref x, .int (iI w), .int (iI t)] (WP dA cd o (delS S w t) (tm + 200) fun _ => True) nX := by
  subst hx
  obtain ⟨C, R, n4, Q4, na, Qa, n, Q, hc, hm, h4, hfr, hs, hk, ht⟩ := hw
  refine gM_mono (c_L_delay hst hc hw1 ht1 hoo) (fun v σ9 h => ?_)
  obtain ⟨rfl, σa, f, rfl, ha, e1, e0⟩ := h
  obtain ⟨m1, m2⟩ := sm_delay hm w t
  refine ⟨by rw [r_del.1], σa, f, rfl, ha, ?_, fun _ => trivial⟩
  by_cases q : thD w t = 0
  · obtain ⟨k1, k2⟩ := e0 q
    exact WS_1 k1 k2 (m2 q) h4 hfr hs r_del (K3_k hk (fun k a _ => mw_ne k (by omega))) ht
  · rw [e1 q]
    exact WS_0 hc (m1 q) h4 hfr hs r_del hk ht
theorem w_offset (hst : lc.stackTraces = false) {x : Nat} (hx : x = cd 0) (hw : WS dA cd σ1 S tm) (hoo : σ1 o = none) {i : Int} (hi : -2147483648 ≤ i ∧ i ≤ 2147483647) : gM lc dA yL_offset (.codeWith yL_offset cL_offset 4 (some .int) hh_L_offset) { frames := 8, cells := 2, slots := 12, locals := 137 } (uni σ1 (one o (lo dA f0))) [.ref x, .int (iI i), .ref o] (WP dA cd o (mw S 0 0 (thO S i)) (tm + 200) fun f => f 0 = (iI (ofR S i)).toInt64) nX := by
  subst hx
  obtain ⟨C, R, n4, Q4, na, Qa, n, Q, hc, hm, h4, hfr, hs, hk, ht⟩ := hw
  refine gM_mono (c_L_offset hst hc h4 hi hoo) (fun v σ9 h => ?_)
  obtain ⟨rfl, σa, f, rfl, ha, e1, e0⟩ := h
  obtain ⟨m1, m2⟩ := sm_offset hm i
  rw [m1] at e1 e0 ⊢
  refine ⟨by rw [mw_s], σa, f, rfl, ha, ?_, fun q => ?_⟩
  · by_cases q : thO S i = 0
    · obtain ⟨-, k1, k2⟩ := e0 q
      exact WS_1 k1 k2 (SM_0 hm _) h4 hfr hs rw0.s0 hk ht
    · rw [e1 q]
      exact WS_0 hc (SM_0 hm _) h4 hfr hs rw0.s0 hk ht
  · rw [mw_s] at q
    rw [(e0 q).1, m2 q]
theorem w_gate (hst : lc.stackTraces = false) {x : Nat} (hx : x = cd 0) (hw : WS dA cd σ1 S tm) (hoo : σ1 o = none) {w t : Int} (hw1 : -2147483648 ≤ w ∧ w ≤ 2147483647) (ht1 : -2147483648 ≤ t ∧ t ≤ 2147483647) : gM lc dA yL_gate (.codeWith yL_gate cL_gate 5 (some .int) hh_L_gate) { frames := 8, cells := 3, slots := 18, locals := 138 } (uni σ1 (one o (lo dA f0))) [.ref x, .int (iI w), .int (iI t), .ref o] (WP dA cd o (mw S 0 0 (thG S w t)) (tm + 200) fun f => f 0 = (iI (gaR S w t)).toInt64) nX := by
  subst hx
  obtain ⟨C, R, n4, Q4, na, Qa, n, Q, hc, hm, h4, hfr, hs, hk, ht⟩ := hw
  refine gM_mono (c_L_gate hst hc h4 hm.2.1.pw hw1 ht1 hoo) (fun v σ9 h => ?_)
  obtain ⟨rfl, σa, f, rfl, ha, e1, e0⟩ := h
  obtain ⟨m1, m2⟩ := sm_gate hm w t
  rw [m1] at e1 e0 ⊢
  refine ⟨by rw [mw_s], σa, f, rfl, ha, ?_, fun q => ?_⟩
  · by_cases q : thG S w t = 0
    · obtain ⟨-, k1, k2⟩ := e0 q
      exact WS_1 k1 k2 (SM_0 hm _) h4 hfr hs rw0.s0 hk ht
    · rw [e1 q]
      exact WS_0 hc (SM_0 hm _) h4 hfr hs rw0.s0 hk ht
  · rw [mw_s] at q
    rw [(e0 q).1, m2 q]
theorem w_activate (hst : lc.stackTraces = false) {x : Nat} (hx : x = cd 0) (hw : WS dA cd σ1 S tm) (hoo : σ1 o = none) : gM lc dA yL_activate (.codeWith yL_activate cL_activate 2 (some .int) hh_L_activate) { frames := 8, cells := 1, slots := 6, locals := 136 } (uni σ1 (one o (lo dA f0))) [.ref x] (WP dA cd o (actS S) (tm + 200) fun _ => True) nX := by
  subst hx
  obtain ⟨C, R, n4, Q4, na, Qa, n, Q, hc, hm, h4, hfr, hs, hk, ht⟩ := hw
  refine gM_mono (c_L_activate hst hc h4 hoo) (fun v σ9 h => ?_)
  obtain ⟨rfl, σa, f, rfl, ha, e1, e0⟩ := h
  obtain ⟨m0, m1, m2⟩ := sm_activate hm
  rw [m0] at e1 e0 ⊢
  refine ⟨by rw [r_act.1], σa, f, rfl, ha, ?_, fun _ => trivial⟩
  by_cases q : thA S = 0
  · obtain ⟨k1, k2⟩ := e0 q
    have e6 : rwr R 0 5 (R 0 4) 0 6 = R 0 6 := rwr_e (by decide)
    have e4 : rwr R 0 5 (R 0 4) 0 4 = R 0 4 := rwr_e (by decide)
    have e5 : rwr R 0 5 (R 0 4) 0 5 = R 0 4 := rwr_s
    refine ⟨C, _, n4, Q4, n4, Q4, n, Q, k1, m2 q, by rw [e4]; exact h4.fr k2, ⟨by rw [e6]; exact hfr.1.fr k2, by rw [e5]; exact h4.fr k2, fun i hi => ?_⟩, STM_fr hs k2 (rwr_ne 2 (by decide)) r_act.2.1, hk, by rw [r_act.2.2]; omega⟩
    obtain ⟨ai, a1, a2⟩ := hfr.2.2 i hi
    exact ⟨ai, by rw [rwr_ne (13 + i) (by omega)]; exact a1, a2.fr k2⟩
  · rw [e1 q]
    exact WS_0 hc (m1 q) h4 hfr hs r_act hk ht
theorem w_tick (hst : lc.stackTraces = false) {x : Nat} (hx : x = cd 0) (hw : WS dA cd σ1 S tm) (htm : tm ≤ 900000) (hoo : σ1 o = none) {k : Int} (hk1 : -2147483648 ≤ k ∧ k ≤ 2147483647) : gM lc dA yL_tick (.codeWith yL_tick cL_tick 4 (some .int) hh_L_tick) { frames := 7, cells := 1, slots := 6, locals := 157 } (uni σ1 (one o (lo dA f0))) [.ref x, .int (iI k), .ref o] (WP dA cd o (tickS S k) (tm + 200) fun f => f 0 = (iI (tickR S k)).toInt64) nX := by
  subst hx
  obtain ⟨C, R, n4, Q4, na, Qa, n, Q, hc, hm, h4, hfr, hs, hk, ht⟩ := hw
  obtain ⟨m1, m2, m3⟩ := sm_tick hm (k := k) (by omega)
  have hth : tickS S k 0 0 = thT k := by
    unfold tickS
    split
    · rename_i q
      have hr : 1 ≤ k ∧ k ≤ 200 := by unfold thT at q; split at q <;> omega
      have g := (ts_ticks k.toNat (SM_0 hm (thT k)).1 (by rw [mw_k (by decide)]; omega)).2.2.1
      rw [g.1 0 (by decide), mw_s]
    · exact mw_s
  refine gM_mono (c_L_tick hst hc hfr hk1 (fun q j hj => (m1 q j hj).1) hoo) (fun v σ9 h => ?_)
  obtain ⟨rfl, σa, f, rfl, ha, e1, e0⟩ := h
  refine ⟨by rw [hth], σa, f, rfl, ha, ?_, fun q => ?_⟩
  · by_cases q : thT k = 0
    · obtain ⟨R9, -, k1, k2, k3, k4, k5⟩ := e0 q
      obtain ⟨g1, g2, -, g4, g5⟩ := m3 q
      have hr : 1 ≤ k ∧ k ≤ 200 := by unfold thT at q; split at q <;> omega
      refine ⟨_, R9, n4, Q4, _, Qa, _, _, k1, g1, by rw [k4]; exact h4.fr k2, k3, STM_fr hs k2 k5 (fun j a b => ?_), K3_ticks hm.1 hk k.toNat (by omega), by omega⟩
      rcases (show j = 2 ∨ 3 ≤ j by omega) with z | z
      · subst z; exact g4
      · exact g5 j z b
    · rw [e1 q]
      have e : tickS S k = mw S 0 0 (thT k) := by unfold tickS; rw [if_neg q]
      rw [e]
      exact WS_0 hc (SM_0 hm _) h4 hfr hs rw0.s0 hk ht
  · rw [hth] at q
    obtain ⟨R9, k0, -⟩ := e0 q
    rw [k0, (m3 q).2.2.1]
theorem w_talk (hst : lc.stackTraces = false) {x : Nat} (hx : x = cd 0) (hw : WS dA cd σ1 S tm) (hoo : σ1 o = none) {i on t : Int} (hi : -2147483648 ≤ i ∧ i ≤ 2147483647) (ho : on = 0 ∨ on = 1) (ht1 : -2147483648 ≤ t ∧ t ≤ 2147483647) : gM lc dA yL_talk (.codeWith yL_talk cL_talk 5 (some .int) hh_L_talk) { frames := 8, cells := 2, slots := 12, locals := 140 } (uni σ1 (one o (lo dA f0))) [.ref x, .int (iI i), .int (iI on), .int (iI t)] (WP dA cd o (talkS S i on t) (tm + 200) fun _ => True) nX := by
  subst hx
  obtain ⟨C, R, n4, Q4, na, Qa, n, Q, hc, hm, h4, hfr, hs, hk, ht⟩ := hw
  refine gM_mono (c_L_talk hst hc hfr.1 hi ho ht1 hoo) (fun v σ9 h => ?_)
  obtain ⟨rfl, σa, f, rfl, ha, e1, e0⟩ := h
  obtain ⟨m0, m1, m2⟩ := sm_talk hm (i := i) (t := t) ho
  rw [m0] at e1 e0 ⊢
  refine ⟨by rw [r_talk.1], σa, f, rfl, ha, ?_, fun _ => trivial⟩
  by_cases q : thK S i t = 0
  · obtain ⟨k1, k2⟩ := e0 q
    refine WS_1 k1 k2 (m2 q) h4 hfr hs r_talk (fun j hj => ?_) ht
    by_cases z : 13 + j = 13 + i.toNat
    · rw [z, mw_e (by decide), mw_e (by decide), ← z]; exact hk j hj
    · rw [mw_k z, mw_k z]; exact hk j hj
  · rw [e1 q]
    exact WS_0 hc (m1 q) h4 hfr hs r_talk hk ht
theorem w_unblock (hst : lc.stackTraces = false) {x : Nat} (hx : x = cd 0) (hw : WS dA cd σ1 S tm) (hoo : σ1 o = none) {i : Int} (hi : -2147483648 ≤ i ∧ i ≤ 2147483647) : gM lc dA yL_unblock (.codeWith yL_unblock cL_unblock 4 (some .int) hh_L_unblock) { frames := 8, cells := 1, slots := 6, locals := 139 } (uni σ1 (one o (lo dA f0))) [.ref x, .int (iI i), .ref o] (WP dA cd o (unbS S i) (tm + 200) fun f => f 0 = (iI (bz (unbB S i))).toInt64) nX := by
  subst hx
  obtain ⟨C, R, n4, Q4, na, Qa, n, Q, hc, hm, h4, hfr, hs, hk, ht⟩ := hw
  refine gM_mono (c_L_unblock hst hc hfr.1 hi hk hoo) (fun v σ9 h => ?_)
  obtain ⟨rfl, σa, f, rfl, ha, e1, e0⟩ := h
  obtain ⟨m0, m1, m2⟩ := sm_unblock hm i
  rw [m0] at e1 e0 ⊢
  refine ⟨by rw [r_unb.1], σa, f, rfl, ha, ?_, fun q => ?_⟩
  · by_cases q : thU S i = 0
    · obtain ⟨-, k1, k2⟩ := e0 q
      refine WS_1 k1 k2 (m2 q).1 h4 hfr hs r_unb (fun j hj => ?_) ht
      by_cases z : 13 + j = 13 + i.toNat
      · rw [z, mw_s]; exact Or.inl rfl
      · rw [mw_k z]; exact hk j hj
    · rw [e1 q]
      exact WS_0 hc (m1 q) h4 hfr hs r_unb hk ht
  · rw [r_unb.1] at q
    rw [(e0 q).1, (m2 q).2]
theorem w_facts {C : mS} {R : cR} {n4 na n : Int} {Q4 Qa Q : Nat → mS} (hm : SM C S n4 Q4 na Qa n Q) (hfr : frH dA cd σ1 R n Q na Qa) (ht : S 15 0 ≤ 999000) : (0 ≤ C 0 9 ∧ C 0 9 ≤ 1000000) ∧ tkH dA cd σ1 C R n.toNat Q ∧ (∀ l, l < 6 → C (24 + l) 0 = 0 ∨ C (24 + l) 0 = 1) ∧ (∀ l, l < 6 → PtW C l) ∧ (∀ l, l < 6 → 0 ≤ C (24 + l) 3 ∧ C (24 + l) 3 ≤ 8) ∧ FW S := by
  have hnc := ts_nc hm.1 ht
  have h9 : 0 ≤ C 0 9 ∧ C 0 9 ≤ 999000 := hnc.1
  have hp : ∀ l, l < 6 → PtW C l := fun l hl => (hnc.2.2.1 l hl).1
  refine ⟨by omega, fun i hi => ⟨(hnc.2.1 i hi).1, (hnc.2.1 i hi).2, hfr.2.2 i hi⟩, fun l hl => (hp l hl).1, hp, fun l hl => (hp l hl).2.2, ?_⟩
  obtain ⟨g0, g2, g1, gtr, grg, gpr, gvf, gcu⟩ := hm.1
  exact ts_fw (C := C) (n := n) (na := na) (Q := Q) (Qa := Qa) ⟨g0, g2, g1, gtr, grg, gpr, ⟨gvf.1, fun x hx => by have := gvf.2.1 x hx; exact ⟨this.1, ⟨this.2.1.1, by have := this.2.1.2; omega⟩, this.2.2⟩, gvf.2.2⟩, gcu⟩ (by omega)
theorem w_cut (hst : lc.stackTraces = false) {x : Nat} (hx : x = cd 0) (hw : WS dA cd σ1 S tm) (htm : tm ≤ 900000) (hoo : σ1 o = none) {w on : Int} (hw1 : -2147483648 ≤ w ∧ w ≤ 2147483647) (ho : on = 0 ∨ on = 1) : gM lc dA yL_cut (.codeWith yL_cut cL_cut 5 (some .int) hh_L_cut) { frames := 8, cells := 1, slots := 6, locals := 139 } (uni σ1 (one o (lo dA f0))) [.ref x, .int (iI w), .int (iI on), .ref o] (WP dA cd o (cutS S w on) (tm + 200) fun f => f 0 = (iI (bz (cutB S w on))).toInt64) nX := by
  subst hx
  obtain ⟨C, R, n4, Q4, na, Qa, n, Q, hc, hm, h4, hfr, hs, hk, ht⟩ := hw
  obtain ⟨f1, f2, f3, f4, f5, f6⟩ := w_facts hm hfr (by omega)
  refine gM_mono (c_L_cut hst hc hfr.1 f1 f2 f3 hw1 ho hoo) (fun v σ9 h => ?_)
  obtain ⟨rfl, σa, f, rfl, ha, e1, e0⟩ := h
  obtain ⟨m1, m2⟩ := sm_cut hm (w := w) ho
  have hrc : rw0 S (cutS S w on) (thC w) := r_cut f6.1.1
  refine ⟨by rw [hrc.1], σa, f, rfl, ha, ?_, fun q => ?_⟩
  · by_cases q : thC w = 0
    · obtain ⟨-, k1, k2⟩ := e0 q
      have hr : 0 ≤ w ∧ w < 6 := by unfold thC at q; split at q <;> omega
      have hn5 := hm.1.2.1.1.2
      refine WS_1 k1 k2 (m2 q).1 h4 hfr hs hrc (fun j hj => ?_) ht
      unfold cuC
      split
      · rw [mw_k (by omega)]; exact hk j hj
      · unfold laC
        rw [mw_k (by omega)]
        rcases Nat.lt_or_ge j n.toNat with z | z
        · obtain ⟨e3, -⟩ := itT_in (f := fun T i => loF T i (Q i) ((w.toNat : Nat) : Int) (mw C (24 + w.toNat) 0 on 0 9)) (fun _ _ _ h1 h2 => loF_k h1 h2) (mw C (24 + w.toNat) 0 on) hj z (by omega)
          have e3 : loA n.toNat Q ((w.toNat : Nat) : Int) (mw C (24 + w.toNat) 0 on 0 9) (mw C (24 + w.toNat) 0 on) (13 + j) = loF (itN j (fun T i => loF T i (Q i) ((w.toNat : Nat) : Int) (mw C (24 + w.toNat) 0 on 0 9)) (mw C (24 + w.toNat) 0 on)) j (Q j) ((w.toNat : Nat) : Int) (mw C (24 + w.toNat) 0 on 0 9) (13 + j) := e3
          have b1 : itN j (fun T i => loF T i (Q i) ((w.toNat : Nat) : Int) (mw C (24 + w.toNat) 0 on 0 9)) (mw C (24 + w.toNat) 0 on) (13 + j) = C (13 + j) := by
            have := loA_k (n := j) (Q := Q) (w := ((w.toNat : Nat) : Int)) (t := mw C (24 + w.toNat) 0 on 0 9) (C := mw C (24 + w.toNat) 0 on) (k := 13 + j) (by omega)
            unfold loA at this
            rw [this, mw_ne (13 + j) (by omega)]
          rw [e3, (loF_lst (w := ((w.toNat : Nat) : Int)) (P := Q j) (t := mw C (24 + w.toNat) 0 on 0 9) (by rw [b1]; exact (f2 j z).1.2.2.2.1.1)).2.2.2 3 (by decide) (by decide), b1]
          exact hk j hj
        · rw [loA_k (by omega), mw_k (by omega)]
          exact hk j hj
    · rw [e1 q]
      exact WS_0 hc (m1 q) h4 hfr hs hrc hk ht
  · rw [hrc.1] at q
    rw [(e0 q).1, (m2 q).2]
theorem w_babble (hst : lc.stackTraces = false) {x : Nat} (hx : x = cd 0) (hw : WS dA cd σ1 S tm) (htm : tm ≤ 900000) (hoo : σ1 o = none) {w t : Int} (hw1 : -2147483648 ≤ w ∧ w ≤ 2147483647) (ht1 : -2147483648 ≤ t ∧ t ≤ 2147483647) : gM lc dA yL_babble (.codeWith yL_babble cL_babble 5 (some .int) hh_L_babble) { frames := 8, cells := 3, slots := 18, locals := 139 } (uni σ1 (one o (lo dA f0))) [.ref x, .int (iI w), .int (iI t), .ref o] (WP dA cd o (babS S w t) (tm + 200) fun f => f 0 = (iI (babR S w t)).toInt64) nX := by
  subst hx
  obtain ⟨C, R, n4, Q4, na, Qa, n, Q, hc, hm, h4, hfr, hs, hk, ht⟩ := hw
  obtain ⟨f1, f2, f3, f4, f5, f6⟩ := w_facts hm hfr (by omega)
  refine gM_mono (c_L_babble hst hc f4 hw1 ht1 hoo) (fun v σ9 h => ?_)
  obtain ⟨rfl, σa, f, rfl, ha, e1, e0⟩ := h
  obtain ⟨m0, m1, m2⟩ := sm_babble hm w t
  rw [m0] at e1 e0 ⊢
  refine ⟨by rw [r_bab.1], σa, f, rfl, ha, ?_, fun q => ?_⟩
  · by_cases q : thB S w t = 0
    · obtain ⟨-, k1, k2⟩ := e0 q
      refine WS_1 k1 k2 (m2 q).1 h4 hfr hs r_bab (K3_k hk (fun k a b => ?_)) ht
      unfold apF
      split
      · rw [mw_ne k (by omega), mw_ne k (by omega)]
      · rfl
    · rw [e1 q]
      exact WS_0 hc (m1 q) h4 hfr hs r_bab hk ht
  · rw [r_bab.1] at q
    rw [(e0 q).1, (m2 q).2]
theorem w_told (hst : lc.stackTraces = false) {x : Nat} (hx : x = cd 0) (hw : WS dA cd σ1 S tm) (hoo : σ1 o = none) {i u : Int} (hi : -2147483648 ≤ i ∧ i ≤ 2147483647) (hu : -2147483648 ≤ u ∧ u ≤ 2147483647) : gM lc dA yL_told (.codeWith yL_told cL_told 5 (some .int) hh_L_told) { frames := 8, cells := 2, slots := 12, locals := 140 } (uni σ1 (one o (lo dA f0))) [.ref x, .int (iI i), .int (iI u), .ref o] (WP dA cd o (mw S 0 0 (thTo S i u)) (tm + 200) fun f => f 0 = (iI (toldR S i u)).toInt64) nX := by
  subst hx
  obtain ⟨C, R, n4, Q4, na, Qa, n, Q, hc, hm, h4, hfr, hs, hk, ht⟩ := hw
  refine gM_mono (c_L_told hst hc hfr.1 hk hi hu hoo) (fun v σ9 h => ?_)
  obtain ⟨rfl, σa, f, rfl, ha, e1, e0⟩ := h
  obtain ⟨m1, m2⟩ := sm_told hm i u
  rw [m1] at e1 e0 ⊢
  refine ⟨by rw [mw_s], σa, f, rfl, ha, ?_, fun q => ?_⟩
  · by_cases q : thTo S i u = 0
    · obtain ⟨-, k1, k2⟩ := e0 q
      exact WS_1 k1 k2 (SM_0 hm _) h4 hfr hs rw0.s0 hk ht
    · rw [e1 q]
      exact WS_0 hc (SM_0 hm _) h4 hfr hs rw0.s0 hk ht
  · rw [mw_s] at q
    rw [(e0 q).1, m2 q]
theorem w_link (hst : lc.stackTraces = false) {x : Nat} (hx : x = cd 0) (hw : WS dA cd σ1 S tm) (htm : tm ≤ 900000) (hoo : σ1 o = none) {w u : Int} (hw1 : -2147483648 ≤ w ∧ w ≤ 2147483647) (hu : -2147483648 ≤ u ∧ u ≤ 2147483647) : gM lc dA yL_link (.codeWith yL_link cL_link 5 (some .int) hh_L_link) { frames := 8, cells := 2, slots := 12, locals := 139 } (uni σ1 (one o (lo dA f0))) [.ref x, .int (iI w), .int (iI u), .ref o] (WP dA cd o (mw S 0 0 (thL w u)) (tm + 200) fun f => f 0 = (iI (linkR S w u)).toInt64) nX := by
  subst hx
  obtain ⟨C, R, n4, Q4, na, Qa, n, Q, hc, hm, h4, hfr, hs, hk, ht⟩ := hw
  obtain ⟨f1, f2, f3, f4, f5, f6⟩ := w_facts hm hfr (by omega)
  refine gM_mono (c_L_link hst hc hfr.1 f1 f2 f5 f3 hw1 hu hoo) (fun v σ9 h => ?_)
  obtain ⟨rfl, σa, f, rfl, ha, e1, e0⟩ := h
  refine ⟨by rw [mw_s], σa, f, rfl, ha, ?_, fun q => ?_⟩
  · by_cases q : thL w u = 0
    · obtain ⟨-, k1, k2⟩ := e0 q
      exact WS_1 k1 k2 (SM_0 hm _) h4 hfr hs rw0.s0 hk ht
    · rw [e1 q]
      exact WS_0 hc (SM_0 hm _) h4 hfr hs rw0.s0 hk ht
  · rw [mw_s] at q
    rw [(e0 q).1, sm_link hm (by omega) q]
theorem w_streams (hst : lc.stackTraces = false) {x : Nat} (hx : x = cd 0) (hw : WS dA cd σ1 S tm) (hoo : σ1 o = none) {u : Int} (hu : -2147483648 ≤ u ∧ u ≤ 2147483647) : gM lc dA yL_streams (.codeWith yL_streams cL_streams 4 (some .int) hh_L_streams) { frames := 7, cells := 1, slots := 6, locals := 117 } (uni σ1 (one o (lo dA f0))) [.ref x, .int (iI u), .ref o] (WP dA cd o (mw S 0 0 (thSt u)) (tm + 200) fun f => f 0 = (iI (strR S u)).toInt64) nX := by
  subst hx
  obtain ⟨C, R, n4, Q4, na, Qa, n, Q, hc, hm, h4, hfr, hs, hk, ht⟩ := hw
  refine gM_mono (c_L_streams hst hc h4 hfr.2.1 hfr.1 hu hoo) (fun v σ9 h => ?_)
  obtain ⟨rfl, σa, f, rfl, ha, e1, e0⟩ := h
  refine ⟨by rw [mw_s], σa, f, rfl, ha, ?_, fun q => ?_⟩
  · by_cases q : thSt u = 0
    · obtain ⟨-, k1, k2⟩ := e0 q
      exact WS_1 k1 k2 (SM_0 hm _) h4 hfr hs rw0.s0 hk ht
    · rw [e1 q]
      exact WS_0 hc (SM_0 hm _) h4 hfr hs rw0.s0 hk ht
  · rw [mw_s] at q
    rw [(e0 q).1, sm_streams hm u q]
end WOPS
