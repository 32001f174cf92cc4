/-! a tick of both sides: the frames move -/
def sdR (S V : mS) : Prop := ∀ k, 7 ≤ k → k ≤ 12 → V k = S k
theorem binF_sd {S V : mS} (h : sdR S V) (p q : Int) (j : Nat) : binF V p q j = binF S p q j := binF_eq (fun k h1 h2 => h k h1 h2) p q j
theorem laF_sd {S V : mS} (h : sdR S V) (q : Int) : laF V q = laF S q := by unfold laF; rw [h 11 (by decide) (by decide)]
theorem latR_sd {S V : mS} (h : sdR S V) (i : Int) : latR V i = latR S i := by
  unfold latR
  rw [laF_sd h, h 9 (by decide) (by decide), h 12 (by decide) (by decide), binF_sd h]
theorem hit_next {S V : mS} (hk : sdR S V) (ht : V 15 0 = S 15 0 + 1) {l : Int} (hl : S 26 l ≠ 0) {x : Int × Int} (h1 : lostP S x = false) (h2 : hitP S l x = false) : hitP V l x = false := by
  cases hh : hitP V l x with
  | false => rfl
  | true =>
    exfalso
    unfold hitP at hh
    rw [anyN_iff] at hh
    obtain ⟨j, j1, j2⟩ := hh
    rw [laF_sd hk] at j1
    rw [Bool.and_eq_true, Bool.and_eq_true, decide_eq_true_eq, decide_eq_true_eq, decide_eq_true_eq, hk 11 (by decide) (by decide), hk 9 (by decide) (by decide), hk 12 (by decide) (by decide), binF_sd hk, ht] at j2
    obtain ⟨⟨k1, k2⟩, k3⟩ := j2
    by_cases q : x.2 + binF S (10 + x.1) (30 + 3 * x.1) j = S 15 0
    · have : lostP S x = true := anyN_iff.mpr ⟨j, j1, by rw [Bool.and_eq_true, decide_eq_true_eq, decide_eq_true_eq, k1]; exact ⟨q, hl⟩⟩
      rw [h1] at this
      cases this
    · have : hitP S l x = true := anyN_iff.mpr ⟨j, j1, by rw [Bool.and_eq_true, Bool.and_eq_true, decide_eq_true_eq, decide_eq_true_eq, decide_eq_true_eq]; exact ⟨⟨k1, by omega⟩, by omega⟩⟩
      rw [h2] at this
      cases this
theorem fly_ok {S : mS} (h0 : 0 ≤ S 23 0) : FL (flyF S) = ((FL S).filter (fun x => !lostP S x)).filter (fun x => !gotP S x) ∧ (∀ k, k ≠ 19 → k ≠ 20 → k ≠ 22 → k ≠ 23 → k ≠ 24 → k ≠ 25 → flyF S k = S k) ∧ (∀ i, flyF S 20 i = S 20 i + (((flS S i).countP (fun s => lostP S (i, s)) : Nat) : Int)) ∧ (∀ i, flyF S 19 i = S 19 i + ((((flS S i).filter (fun s => !lostP S (i, s))).countP (fun s => gotP S (i, s)) : Nat) : Int)) ∧ (∀ i, flyF S 22 i = if ((flS S i).filter (fun s => !lostP S (i, s))).any (fun s => gotP S (i, s)) = true then latR S i else S 22 i) ∧ 0 ≤ flyF S 23 0 := by
  have e1 : fl1 (S 23 0).toNat S = rmv (lostP S) (S 23 0).toNat S := fl1_rmv _ S (fun _ _ => rfl)
  obtain ⟨g1, g2, g3, g4⟩ := rmv_ok (pr := lostP S) (S 23 0).toNat S h0 (by rw [FL_len]; exact Nat.le_refl _)
  have ht : (FL S).take (S 23 0).toNat = FL S := List.take_of_length_le (by rw [FL_len]; exact Nat.le_refl _)
  have hd : (FL S).drop (S 23 0).toNat = [] := List.drop_eq_nil_of_le (by rw [FL_len]; exact Nat.le_refl _)
  rw [ht, hd, List.append_nil] at g1
  rw [ht] at g3
  unfold flyF
  rw [e1]
  generalize rmv (lostP S) (S 23 0).toNat S = F at g1 g2 g3 g4 ⊢
  have hst : stR S F := fun k hk => g2 k (by omega) (by omega) (by omega) (by omega)
  obtain ⟨f1, f2, f3, f4, f5⟩ := fl2_ok (F 23 0).toNat F 0 (by rw [FL_len]; omega) (Nat.zero_le _)
  rw [show ((0 : Nat) : Int) = 0 from rfl] at f1 f2 f3 f4 f5
  rw [List.take_zero, List.drop_zero, List.nil_append, gotP_st hst, g1] at f1
  rw [List.drop_zero, gotP_st hst, g1] at f3 f4
  refine ⟨f1, fun k a b c d e f => (f2 k a c d e f).trans (g2 k b d e f), fun i => ?_, fun i => ?_, fun i => ?_, f5 g4⟩
  · rw [show fl2 (F 23 0).toNat F 0 20 = F 20 from f2 20 (by decide) (by decide) (by decide) (by decide) (by decide), g3 i, cnt_i]
    rfl
  · rw [f3 i, g2 19 (by decide) (by decide) (by decide) (by decide), cnt_i, flt_i]
    rfl
  · rw [f4 i, any_i, flt_i, latR_st hst, g2 22 (by decide) (by decide) (by decide) (by decide)]
    rfl
theorem ts_mv {C S : mS} {n na : Int} {Q Qa : Nat → mS} (h : TSB C S n Q na Qa) : (∀ i : Nat, (i : Int) < n → TR (mvA n.toNat Q (C 0 9) C) (flyF S) i) ∧ (∀ k, k ≠ 19 → k ≠ 20 → k ≠ 22 → k ≠ 23 → k ≠ 24 → k ≠ 25 → flyF S k = S k) ∧ VF (mw (flyF S) 15 0 (S 15 0 + 1)) n (S 15 0) ∧ (∀ l, 0 ≤ l → l < 6 → S 26 l ≠ 0 → ∀ x ∈ FL (flyF S), hitP (mw (flyF S) 15 0 (S 15 0 + 1)) l x = false) ∧ ∀ k, (k < 13 ∨ 23 ≤ k) → mvA n.toNat Q (C 0 9) C k = C k := by
  obtain ⟨⟨h9, h15⟩, h2, h1, htr, hrg, hpr, hvf, hcu⟩ := h
  have hn5 := h2.1.2
  obtain ⟨f1, f2, f3, f4, f5, f6⟩ := fly_ok hvf.1
  have hmem : ∀ x, x ∈ FL (flyF S) → x ∈ FL S ∧ lostP S x = false ∧ gotP S x = false := fun x hx => by
    rw [f1, List.mem_filter, List.mem_filter] at hx
    exact ⟨hx.1.1, by simpa using hx.1.2, by simpa using hx.2⟩
  have hfs : ∀ i, flS (flyF S) i = ((flS S i).filter (fun s => !lostP S (i, s))).filter (fun s => !gotP S (i, s)) := fun i => by
    unfold flS
    rw [f1, flt_i, flt_i]
  generalize flyF S = T at f1 f2 f3 f4 f5 f6 hmem hfs ⊢
  have sd : sdR S (mw T 15 0 (S 15 0 + 1)) := fun k k1 k2 => by rw [mw_ne k (by omega), f2 k (by omega) (by omega) (by omega) (by omega) (by omega) (by omega)]
  have fl : FL (mw T 15 0 (S 15 0 + 1)) = FL T := FL_k (mw_ne 23 (by decide)) (mw_ne 24 (by decide)) (mw_ne 25 (by decide))
  refine ⟨fun i hi => ?_, f2, ⟨by rw [mw_k (by decide)]; exact f6, fun x hx => ?_, fun i => ?_⟩, fun l l0 l1 hl x hx => ?_, fun k hk => mvA_k (by omega)⟩
  · have hi5 : i < 5 := by omega
    have hin : i < n.toNat := by omega
    have hp := h2.2.2.1 i hi
    rw [show (5 * 2 + (i : Int)) = 10 + (i : Int) by omega, show (15 * 2 + 3 * (i : Int)) = 30 + 3 * (i : Int) by omega] at hp
    obtain ⟨e1, e2⟩ := itT_in (f := fun T i => mvF T i (Q i) (C 0 9)) (fun _ _ _ h1 h2 => mvF_k h1 h2) C hi5 hin (by omega)
    have e1 : mvA n.toNat Q (C 0 9) C (13 + i) = mvF (itN i (fun T i => mvF T i (Q i) (C 0 9)) C) i (Q i) (C 0 9) (13 + i) := e1
    have e2 : mvA n.toNat Q (C 0 9) C (13 + i + 5) = mvF (itN i (fun T i => mvF T i (Q i) (C 0 9)) C) i (Q i) (C 0 9) (13 + i + 5) := e2
    have b1 : itN i (fun T i => mvF T i (Q i) (C 0 9)) C (13 + i) = C (13 + i) := mvA_k (by omega)
    have b2 : itN i (fun T i => mvF T i (Q i) (C 0 9)) C (13 + i + 5) = C (13 + i + 5) := mvA_k (by omega)
    have b3 : ∀ l : Nat, l < 6 → itN i (fun T i => mvF T i (Q i) (C 0 9)) C (24 + l) 0 = S 26 (l : Int) := fun l hl => by
      rw [show itN i (fun T i => mvF T i (Q i) (C 0 9)) C (24 + l) = C (24 + l) from mvA_k (by omega)]
      exact (hpr l hl).1.1
    generalize itN i (fun T i => mvF T i (Q i) (C 0 9)) C = E at e1 e2 b1 b2 b3
    have hB : bocP E (Q i) (C 0 9) = fun s => lostP S ((i : Int), s) := funext fun s => by rw [h9]; exact boc_eq hp b3
    have hL : latB (Q i) (C 0 9) = fun s => gotP S ((i : Int), s) := funext fun s => by rw [h9]; exact lat_eq hp
    obtain ⟨m1, m2, m3, m4, m5, m6⟩ := mvF_lst (C := E) hi5 (P := Q i) (t := C 0 9)
    obtain ⟨t1, t2, t3, t5, t6, t7, t8, t4, t9⟩ := htr i hi
    have hsl : stL E i = flS S (i : Int) := (stL_k b1 b2).trans t9
    have hrow : ∀ k, k = 16 ∨ k = 17 ∨ k = 18 ∨ k = 21 → T k = S k := fun k hk => f2 k (by omega) (by omega) (by omega) (by omega) (by omega) (by omega)
    rw [hB, hL, hsl] at m1 m4 m5
    rw [hB, hsl] at m3
    rw [b1] at m3 m4 m5 m6
    unfold TR
    rw [stL_k (C := mvF E i (Q i) (C 0 9)) e1 e2, e1, m1, m3, m4, m5, m6 1 (by decide) (by decide) (by decide) (by decide), m6 2 (by decide) (by decide) (by decide) (by decide), m6 3 (by decide) (by decide) (by decide) (by decide), m6 7 (by decide) (by decide) (by decide) (by decide), hrow 16 (by omega), hrow 17 (by omega), hrow 18 (by omega), hrow 21 (by omega), f3, f4, f5, hfs, List.filter_filter, List.countP_filter, List.any_filter, hp.lat, t5, t6, t8]
    have hc : (fun s => !gotP S ((i : Int), s) && !lostP S ((i : Int), s)) = fun s => !lostP S ((i : Int), s) && !gotP S ((i : Int), s) := funext fun s => Bool.and_comm _ _
    have hc2 : (fun s => gotP S ((i : Int), s) && !lostP S ((i : Int), s)) = fun s => !lostP S ((i : Int), s) && gotP S ((i : Int), s) := funext fun s => Bool.and_comm _ _
    rw [hc, hc2]
    exact ⟨t1, t2, t3, rfl, rfl, t7, rfl, m2, rfl⟩
  · rw [fl] at hx
    obtain ⟨hx1, hx2, hx3⟩ := hmem x hx
    obtain ⟨a, b, c, d⟩ := hvf.2.1 x hx1
    rw [sd 10 (by decide) (by decide), sd 8 (by decide) (by decide), mw_s, latR_sd sd]
    have hg : ¬ (S 15 0 - x.2 = latR S x.1) := fun q => by
      rw [gotP_iff.mpr q] at hx3
      cases hx3
    exact ⟨a, b, c, by omega⟩
  · have : flS (mw T 15 0 (S 15 0 + 1)) i = flS T i := by unfold flS; rw [fl]
    rw [this, hfs]
    exact gap_flt (gap_flt (hvf.2.2 i))
  · obtain ⟨hx1, hx2, hx3⟩ := hmem x hx
    exact hit_next sd mw_s hl hx2 ((hcu l l0 l1 hl).2 x hx1)
