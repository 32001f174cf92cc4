/-! the frames on their way, as lists: the class -/
def stL (C : mS) (i : Nat) : List Int := (List.range (C (13 + i) 4).toNat).map (fun j : Nat => C (13 + i + 5) (j : Int))
theorem stL_k {C T : mS} {i : Nat} (h1 : T (13 + i) = C (13 + i)) (h2 : T (13 + i + 5) = C (13 + i + 5)) : stL T i = stL C i := by unfold stL; rw [h1, h2]
theorem bocF_k {C T P : mS} {age : Int} (h : ∀ l : Nat, T (24 + l) = C (24 + l)) : bocF T P age = bocF C P age := by
  unfold bocF
  congr 1
  funext k
  unfold bocH
  rw [h]
/-- a loop that keeps some: what is true on the way -/
def kpI1 (C : mS) (i : Nat) (keep : Int → Bool) (Tk : mS × Nat) (j : Nat) : Prop := (List.range Tk.2).map (fun x : Nat => Tk.1 (13 + i + 5) (x : Int)) = ((List.range j).map (fun x : Nat => C (13 + i + 5) (x : Int))).filter keep
theorem rg_s {α : Type} (f : Nat → α) (n : Nat) : (List.range (n + 1)).map f = (List.range n).map f ++ [f n] := by rw [List.range_succ, List.map_append, List.map_singleton]
theorem kp_keep {C T : mS} {i j kp : Nat} {keep : Int → Bool} (h : kpI1 C i keep (T, kp) j) (hI : mvI C i (T, kp) j) (hk : keep (C (13 + i + 5) (j : Int)) = true) : kpI1 C i keep (mw T (13 + i + 5) (kp : Int) (T (13 + i + 5) (j : Int)), kp + 1) (j + 1) := by
  unfold kpI1 at h ⊢
  rw [rg_s, rg_s, List.filter_append, ← h, List.filter_cons_of_pos hk, List.filter_nil]
  congr 1
  · refine List.map_congr_left (fun x hx => ?_)
    have := List.mem_range.mp hx
    show mw T (13 + i + 5) (kp : Int) _ (13 + i + 5) (x : Int) = _
    rw [mw_e (by have : x < kp := this; omega)]
  · show [mw T (13 + i + 5) (kp : Int) _ (13 + i + 5) (kp : Int)] = _
    rw [mw_s, show T (13 + i + 5) (j : Int) = C (13 + i + 5) (j : Int) from hI.2.2.2 (j : Int) (Int.le_refl _)]
theorem kp_drop {C T U : mS} {i j kp : Nat} {keep : Int → Bool} (h : kpI1 C i keep (T, kp) j) (hU : U (13 + i + 5) = T (13 + i + 5)) (hk : keep (C (13 + i + 5) (j : Int)) = false) : kpI1 C i keep (U, kp) (j + 1) := by
  unfold kpI1 at h ⊢
  rw [rg_s, List.filter_append, ← h, List.filter_cons_of_neg (by rw [hk]; decide), List.filter_nil, List.append_nil]
  show (List.range kp).map (fun x : Nat => U (13 + i + 5) (x : Int)) = (List.range kp).map (fun x : Nat => T (13 + i + 5) (x : Int))
  rw [hU]
theorem cnt_s (C : mS) (i j : Nat) (p : Int → Bool) : (((List.range (j + 1)).map (fun x : Nat => C (13 + i + 5) (x : Int))).countP p : Int) = (((List.range j).map (fun x : Nat => C (13 + i + 5) (x : Int))).countP p : Int) + if p (C (13 + i + 5) (j : Int)) = true then 1 else 0 := by
  rw [rg_s, List.countP_append]
  by_cases h : p (C (13 + i + 5) (j : Int)) = true
  · rw [List.countP_cons_of_pos h, List.countP_nil, if_pos h]; omega
  · rw [List.countP_cons_of_neg h, List.countP_nil, if_neg h]; omega
theorem any_s (C : mS) (i j : Nat) (p : Int → Bool) : ((List.range (j + 1)).map (fun x : Nat => C (13 + i + 5) (x : Int))).any p = (((List.range j).map (fun x : Nat => C (13 + i + 5) (x : Int))).any p || p (C (13 + i + 5) (j : Int))) := by
  rw [rg_s, List.any_append]
  simp
def bocP (C P : mS) (t s : Int) : Bool := bocF C P (t - s)
def latB (P : mS) (t s : Int) : Bool := decide (t - s = latP P)
/-- moveFrames, frame by frame -/
theorem mv_lst {C : mS} {i : Nat} (hi : i < 5) {P : mS} {t : Int} : ∀ j : Nat, kpI1 C i (fun s => !bocP C P t s && !latB P t s) (itP j (mv1 i P t) (C, 0)) j ∧
    (itP j (mv1 i P t) (C, 0)).1 (13 + i) 6 = C (13 + i) 6 + (((List.range j).map (fun x : Nat => C (13 + i + 5) (x : Int))).countP (bocP C P t) : Int) ∧
    (itP j (mv1 i P t) (C, 0)).1 (13 + i) 5 = C (13 + i) 5 + (((List.range j).map (fun x : Nat => C (13 + i + 5) (x : Int))).countP (fun s => !bocP C P t s && latB P t s) : Int) ∧
    (itP j (mv1 i P t) (C, 0)).1 (13 + i) 8 = (if ((List.range j).map (fun x : Nat => C (13 + i + 5) (x : Int))).any (fun s => !bocP C P t s && latB P t s) = true then latP P else C (13 + i) 8) ∧
    ∀ e, e ≠ 5 → e ≠ 6 → e ≠ 8 → (itP j (mv1 i P t) (C, 0)).1 (13 + i) e = C (13 + i) e
  | 0 => ⟨rfl, by show C (13 + i) 6 = C (13 + i) 6 + ((0 : Nat) : Int); omega, by show C (13 + i) 5 = C (13 + i) 5 + ((0 : Nat) : Int); omega, rfl, fun _ _ _ _ => rfl⟩
  | j + 1 => by
    obtain ⟨h1, h2, h3, h4, h5⟩ := mv_lst (C := C) hi (P := P) (t := t) j
    have hI := mv_ok (C := C) (i := i) (P := P) (t := t) j
    rw [cnt_s, cnt_s, any_s]
    show kpI1 C i _ (mv1 i P t (itP j (mv1 i P t) (C, 0)) j) (j + 1) ∧ (mv1 i P t (itP j (mv1 i P t) (C, 0)) j).1 (13 + i) 6 = _ ∧ (mv1 i P t (itP j (mv1 i P t) (C, 0)) j).1 (13 + i) 5 = _ ∧ (mv1 i P t (itP j (mv1 i P t) (C, 0)) j).1 (13 + i) 8 = _ ∧ ∀ e, e ≠ 5 → e ≠ 6 → e ≠ 8 → (mv1 i P t (itP j (mv1 i P t) (C, 0)) j).1 (13 + i) e = _
    generalize itP j (mv1 i P t) (C, 0) = Tk at h1 h2 h3 h4 h5 hI ⊢
    obtain ⟨T, kp⟩ := Tk
    have hb : ∀ age, bocF T P age = bocF C P age := fun age => bocF_k (fun l => hI.2.1 (24 + l) (by omega) (by omega))
    have hj : T (13 + i + 5) (j : Int) = C (13 + i + 5) (j : Int) := hI.2.2.2 (j : Int) (Int.le_refl _)
    have h2 : T (13 + i) 6 = C (13 + i) 6 + (((List.range j).map (fun x : Nat => C (13 + i + 5) (x : Int))).countP (bocP C P t) : Int) := h2
    have h3 : T (13 + i) 5 = C (13 + i) 5 + (((List.range j).map (fun x : Nat => C (13 + i + 5) (x : Int))).countP (fun s => !bocP C P t s && latB P t s) : Int) := h3
    have h4 : T (13 + i) 8 = (if ((List.range j).map (fun x : Nat => C (13 + i + 5) (x : Int))).any (fun s => !bocP C P t s && latB P t s) = true then latP P else C (13 + i) 8) := h4
    have h5 : ∀ e, e ≠ 5 → e ≠ 6 → e ≠ 8 → T (13 + i) e = C (13 + i) e := h5
    by_cases hB : bocF T P (t - T (13 + i + 5) (j : Int)) = true
    · have e : mv1 i P t (T, kp) j = (mw T (13 + i) 6 (T (13 + i) 6 + 1), kp) := if_pos hB
      have hp : bocP C P t (C (13 + i + 5) (j : Int)) = true := by unfold bocP; rw [← hj, ← hb]; exact hB
      rw [e, hp]
      refine ⟨kp_drop h1 (mw_ne _ (by omega)) (by rw [hp]; rfl), ?_, ?_, ?_, fun x a b c => ?_⟩
      · show mw T (13 + i) 6 (T (13 + i) 6 + 1) (13 + i) 6 = _
        rw [mw_s, h2, if_pos rfl]; omega
      · show mw T (13 + i) 6 (T (13 + i) 6 + 1) (13 + i) 5 = _
        rw [mw_e (by decide), h3, Bool.not_true, Bool.false_and, if_neg (by decide)]; omega
      · show mw T (13 + i) 6 (T (13 + i) 6 + 1) (13 + i) 8 = _
        rw [mw_e (by decide), h4, Bool.not_true, Bool.false_and, Bool.or_false]
      · show mw T (13 + i) 6 (T (13 + i) 6 + 1) (13 + i) x = _
        rw [mw_e b]; exact h5 x a b c
    · have hp : bocP C P t (C (13 + i + 5) (j : Int)) = false := by unfold bocP; rw [← hj, ← hb]; exact Bool.eq_false_iff.mpr hB
      by_cases hG : t - T (13 + i + 5) (j : Int) = latP P
      · have e : mv1 i P t (T, kp) j = (mw (mw T (13 + i) 5 (T (13 + i) 5 + 1)) (13 + i) 8 (t - T (13 + i + 5) (j : Int)), kp) := (if_neg hB).trans (if_pos hG)
        have hg : latB P t (C (13 + i + 5) (j : Int)) = true := decide_eq_true (by rw [← hj]; exact hG)
        rw [e, hp, hg]
        refine ⟨kp_drop h1 ((mw_ne _ (by omega)).trans (mw_ne _ (by omega))) (by rw [hp, hg]; rfl), ?_, ?_, ?_, fun x a b c => ?_⟩
        · show mw (mw T (13 + i) 5 (T (13 + i) 5 + 1)) (13 + i) 8 (t - T (13 + i + 5) (j : Int)) (13 + i) 6 = _
          rw [mw_e (by decide), mw_e (by decide), h2, if_neg (by decide)]; omega
        · show mw (mw T (13 + i) 5 (T (13 + i) 5 + 1)) (13 + i) 8 (t - T (13 + i + 5) (j : Int)) (13 + i) 5 = _
          rw [mw_e (by decide), mw_s, h3, Bool.not_false, Bool.true_and, if_pos rfl]; omega
        · show mw (mw T (13 + i) 5 (T (13 + i) 5 + 1)) (13 + i) 8 (t - T (13 + i + 5) (j : Int)) (13 + i) 8 = _
          rw [mw_s, Bool.not_false, Bool.true_and, Bool.or_true, if_pos rfl]; exact hG
        · show mw (mw T (13 + i) 5 (T (13 + i) 5 + 1)) (13 + i) 8 (t - T (13 + i + 5) (j : Int)) (13 + i) x = _
          rw [mw_e c, mw_e a]; exact h5 x a b c
      · have e : mv1 i P t (T, kp) j = (mw T (13 + i + 5) (kp : Int) (T (13 + i + 5) (j : Int)), kp + 1) := (if_neg hB).trans (if_neg hG)
        have hg : latB P t (C (13 + i + 5) (j : Int)) = false := decide_eq_false (by rw [← hj]; exact hG)
        rw [e, hp, hg]
        refine ⟨kp_keep h1 hI (by rw [hp, hg]; rfl), ?_, ?_, ?_, fun x a b c => ?_⟩
        · show mw T (13 + i + 5) (kp : Int) _ (13 + i) 6 = _
          rw [mw_k (by omega), h2, if_neg (by decide)]; omega
        · show mw T (13 + i + 5) (kp : Int) _ (13 + i) 5 = _
          rw [mw_k (by omega), h3, if_neg (by decide)]; omega
        · show mw T (13 + i + 5) (kp : Int) _ (13 + i) 8 = _
          rw [mw_k (by omega), h4, Bool.not_false, Bool.true_and, Bool.or_false]
        · show mw T (13 + i + 5) (kp : Int) _ (13 + i) x = _
          rw [mw_k (by omega)]; exact h5 x a b c
/-- what moveFrames leaves of a talker -/
theorem mvF_lst {C : mS} {i : Nat} (hi : i < 5) {P : mS} {t : Int} : stL (mvF C i P t) i = (stL C i).filter (fun s => !bocP C P t s && !latB P t s) ∧ 0 ≤ mvF C i P t (13 + i) 4 ∧
    mvF C i P t (13 + i) 6 = C (13 + i) 6 + ((stL C i).countP (bocP C P t) : Int) ∧ mvF C i P t (13 + i) 5 = C (13 + i) 5 + ((stL C i).countP (fun s => !bocP C P t s && latB P t s) : Int) ∧
    mvF C i P t (13 + i) 8 = (if (stL C i).any (fun s => !bocP C P t s && latB P t s) = true then latP P else C (13 + i) 8) ∧ ∀ e, e ≠ 4 → e ≠ 5 → e ≠ 6 → e ≠ 8 → mvF C i P t (13 + i) e = C (13 + i) e := by
  obtain ⟨h1, h2, h3, h4, h5⟩ := mv_lst (C := C) hi (P := P) (t := t) (C (13 + i) 4).toNat
  unfold mvF
  generalize itP (C (13 + i) 4).toNat (mv1 i P t) (C, 0) = Tk at h1 h2 h3 h4 h5 ⊢
  obtain ⟨T, kp⟩ := Tk
  refine ⟨?_, ?_, ?_, ?_, ?_, fun e a b c d => ?_⟩
  · unfold stL
    show (List.range (mw T (13 + i) 4 (kp : Int) (13 + i) 4).toNat).map (fun j : Nat => mw T (13 + i) 4 (kp : Int) (13 + i + 5) (j : Int)) = _
    rw [mw_s, Int.toNat_natCast, mw_ne (13 + i + 5) (by omega)]
    exact h1
  · show 0 ≤ mw T (13 + i) 4 (kp : Int) (13 + i) 4
    rw [mw_s]; omega
  · show mw T (13 + i) 4 (kp : Int) (13 + i) 6 = _
    rw [mw_e (by decide)]; exact h2
  · show mw T (13 + i) 4 (kp : Int) (13 + i) 5 = _
    rw [mw_e (by decide)]; exact h3
  · show mw T (13 + i) 4 (kp : Int) (13 + i) 8 = _
    rw [mw_e (by decide)]; exact h4
  · show mw T (13 + i) 4 (kp : Int) (13 + i) e = _
    rw [mw_e a]; exact h5 e b c d
def hitC (P : mS) (h t s : Int) : Bool := decide (P 4 h < t - s ∧ t - s < P 5 h)
theorem lo_lst {C : mS} {i : Nat} {P : mS} {h t : Int} : ∀ j : Nat, kpI1 C i (fun s => !hitC P h t s) (itP j (lo1 i P h t) (C, 0)) j ∧
    (itP j (lo1 i P h t) (C, 0)).1 (13 + i) 6 = C (13 + i) 6 + (((List.range j).map (fun x : Nat => C (13 + i + 5) (x : Int))).countP (hitC P h t) : Int) ∧
    ∀ e, e ≠ 6 → (itP j (lo1 i P h t) (C, 0)).1 (13 + i) e = C (13 + i) e
  | 0 => ⟨rfl, by show C (13 + i) 6 = C (13 + i) 6 + ((0 : Nat) : Int); omega, fun _ _ => rfl⟩
  | j + 1 => by
    obtain ⟨h1, h2, h5⟩ := lo_lst (C := C) (i := i) (P := P) (h := h) (t := t) j
    have hI := lo_ok (C := C) (i := i) (P := P) (h := h) (t := t) j
    rw [cnt_s]
    show kpI1 C i _ (lo1 i P h t (itP j (lo1 i P h t) (C, 0)) j) (j + 1) ∧ (lo1 i P h t (itP j (lo1 i P h t) (C, 0)) j).1 (13 + i) 6 = _ ∧ ∀ e, e ≠ 6 → (lo1 i P h t (itP j (lo1 i P h t) (C, 0)) j).1 (13 + i) e = _
    generalize itP j (lo1 i P h t) (C, 0) = Tk at h1 h2 h5 hI ⊢
    obtain ⟨T, kp⟩ := Tk
    have hj : T (13 + i + 5) (j : Int) = C (13 + i + 5) (j : Int) := hI.2.2.2 (j : Int) (Int.le_refl _)
    have h2 : T (13 + i) 6 = C (13 + i) 6 + (((List.range j).map (fun x : Nat => C (13 + i + 5) (x : Int))).countP (hitC P h t) : Int) := h2
    have h5 : ∀ e, e ≠ 6 → T (13 + i) e = C (13 + i) e := h5
    by_cases hB : P 4 h < t - T (13 + i + 5) (j : Int) ∧ t - T (13 + i + 5) (j : Int) < P 5 h
    · have e : lo1 i P h t (T, kp) j = (mw T (13 + i) 6 (T (13 + i) 6 + 1), kp) := if_pos hB
      have hp : hitC P h t (C (13 + i + 5) (j : Int)) = true := decide_eq_true (by rw [← hj]; exact hB)
      rw [e, hp]
      refine ⟨kp_drop h1 (mw_ne _ (by omega)) (by rw [hp]; rfl), ?_, fun x a => ?_⟩
      · show mw T (13 + i) 6 (T (13 + i) 6 + 1) (13 + i) 6 = _
        rw [mw_s, h2, if_pos rfl]; omega
      · show mw T (13 + i) 6 (T (13 + i) 6 + 1) (13 + i) x = _
        rw [mw_e a]; exact h5 x a
    · have e : lo1 i P h t (T, kp) j = (mw T (13 + i + 5) (kp : Int) (T (13 + i + 5) (j : Int)), kp + 1) := if_neg hB
      have hp : hitC P h t (C (13 + i + 5) (j : Int)) = false := decide_eq_false (by rw [← hj]; exact hB)
      rw [e, hp]
      refine ⟨kp_keep h1 hI (by rw [hp]; rfl), ?_, fun x a => ?_⟩
      · show mw T (13 + i + 5) (kp : Int) _ (13 + i) 6 = _
        rw [mw_k (by omega), h2, if_neg (by decide)]; omega
      · show mw T (13 + i + 5) (kp : Int) _ (13 + i) x = _
        rw [mw_k (by omega)]; exact h5 x a
/-- what loseOn leaves -/
theorem loF_lst {C : mS} {i : Nat} {P : mS} {w t : Int} (h0 : 0 ≤ C (13 + i) 4) : stL (loF C i P w t) i = (stL C i).filter (fun s => !(decide (hopF P w ≠ -1) && hitC P (hopF P w) t s)) ∧ 0 ≤ loF C i P w t (13 + i) 4 ∧
    loF C i P w t (13 + i) 6 = C (13 + i) 6 + ((stL C i).countP (fun s => decide (hopF P w ≠ -1) && hitC P (hopF P w) t s) : Int) ∧ ∀ e, e ≠ 4 → e ≠ 6 → loF C i P w t (13 + i) e = C (13 + i) e := by
  unfold loF
  by_cases hn : hopF P w = -1
  · rw [if_pos hn, decide_eq_false (fun q => q hn)]
    refine ⟨?_, h0, ?_, fun _ _ _ => rfl⟩
    · exact (List.filter_eq_self.mpr (fun _ _ => rfl)).symm
    · have : (stL C i).countP (fun s => false && hitC P (hopF P w) t s) = 0 := List.countP_eq_zero.mpr (fun _ _ => by simp)
      rw [this]; omega
  · rw [if_neg hn, decide_eq_true (p := hopF P w ≠ -1) hn]
    obtain ⟨h1, h2, h5⟩ := lo_lst (C := C) (i := i) (P := P) (h := hopF P w) (t := t) (C (13 + i) 4).toNat
    generalize itP (C (13 + i) 4).toNat (lo1 i P (hopF P w) t) (C, 0) = Tk at h1 h2 h5 ⊢
    obtain ⟨T, kp⟩ := Tk
    refine ⟨?_, ?_, ?_, fun e a b => ?_⟩
    · unfold stL
      show (List.range (mw T (13 + i) 4 (kp : Int) (13 + i) 4).toNat).map (fun j : Nat => mw T (13 + i) 4 (kp : Int) (13 + i + 5) (j : Int)) = _
      rw [mw_s, Int.toNat_natCast, mw_ne (13 + i + 5) (by omega)]
      exact h1
    · show 0 ≤ mw T (13 + i) 4 (kp : Int) (13 + i) 4
      rw [mw_s]; omega
    · show mw T (13 + i) 4 (kp : Int) (13 + i) 6 = _
      rw [mw_e (by decide)]; exact h2
    · show mw T (13 + i) 4 (kp : Int) (13 + i) e = _
      rw [mw_e a]; exact h5 e b
/-- a frame more -/
theorem spk_lst {C : mS} {i : Nat} {t : Int} (h0 : 0 ≤ C (13 + i) 4) : stL (mw (mw C (13 + i + 5) (C (13 + i) 4) t) (13 + i) 4 (C (13 + i) 4 + 1)) i = stL C i ++ [t] := by
  obtain ⟨n, hn⟩ : ∃ n : Nat, C (13 + i) 4 = (n : Int) := ⟨(C (13 + i) 4).toNat, by omega⟩
  unfold stL
  rw [hn, mw_s, mw_ne (13 + i + 5) (by omega), show ((n : Int) + 1).toNat = n + 1 by omega, rg_s, mw_s, Int.toNat_natCast]
  congr 1
  refine List.map_congr_left (fun x hx => ?_)
  have := List.mem_range.mp hx
  rw [mw_e (by omega)]
theorem stL_len {C : mS} {i : Nat} : (stL C i).length = (C (13 + i) 4).toNat := by unfold stL; rw [List.length_map, List.length_range]
theorem stL_mem {C : mS} {i : Nat} {s : Int} : s ∈ stL C i ↔ ∃ j : Nat, j < (C (13 + i) 4).toNat ∧ C (13 + i + 5) (j : Int) = s := by
  unfold stL
  rw [List.mem_map]
  exact ⟨fun ⟨j, h1, h2⟩ => ⟨j, List.mem_range.mp h1, h2⟩, fun ⟨j, h1, h2⟩ => ⟨j, List.mem_range.mpr h1, h2⟩⟩
