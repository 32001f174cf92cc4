/-! talkers of the class, streams in force of the reference -/
def TR (C S : mS) (i : Nat) : Prop := C (13 + i) 1 = 1 - S 16 (i : Int) ∧ C (13 + i) 2 = S 17 (i : Int) ∧ C (13 + i) 3 = S 18 (i : Int) ∧ C (13 + i) 5 = S 19 (i : Int) ∧ C (13 + i) 6 = S 20 (i : Int) ∧ C (13 + i) 7 = S 21 (i : Int) ∧ C (13 + i) 8 = S 22 (i : Int) ∧ 0 ≤ C (13 + i) 4 ∧ stL C i = flS S (i : Int)
def RG (S : mS) : Prop := ∀ i, 0 ≤ i → i < 5 → (0 ≤ S 17 i ∧ S 17 i ≤ 7) ∧ (S 16 i = 0 ∨ S 16 i = 1) ∧ (S 18 i = 0 ∨ S 18 i = 1)
theorem anyN_congr {f g : Nat → Bool} : ∀ {n : Nat}, (∀ i, i < n → f i = g i) → anyN n f = anyN n g
  | 0, _ => rfl
  | n + 1, h => by
    show (anyN n f || f n) = (anyN n g || g n)
    rw [anyN_congr (fun i hi => h i (Nat.lt_succ_of_lt hi)), h n (Nat.lt_succ_self n)]
theorem PSR.lat {S : mS} {i : Nat} {P : mS} (h : PSR S (10 + (i : Int)) (30 + 3 * (i : Int)) P) : latP P = latR S (i : Int) := by
  obtain ⟨⟨h0, h1, h7, h8⟩, hj, -, -, -⟩ := h
  show P 5 (P 8 0 - 1) = _
  rw [h8, show ((laF S (30 + 3 * (i : Int)) : Nat) : Int) + 1 - 1 = ((laF S (30 + 3 * (i : Int)) : Nat) : Int) by omega]
  exact (hj _ (Nat.le_refl _)).2.2.1
theorem boc_eq {C S : mS} {i : Nat} {P : mS} {s : Int} (h : PSR S (10 + (i : Int)) (30 + 3 * (i : Int)) P) (hc : ∀ l : Nat, l < 6 → C (24 + l) 0 = S 26 (l : Int)) : bocP C P (S 15 0) s = lostP S ((i : Int), s) := by
  obtain ⟨⟨h0, h1, h7, h8⟩, hj, -, hm, -⟩ := h
  unfold bocP bocF lostP
  rw [h8, show (((laF S (30 + 3 * (i : Int)) : Nat) : Int) + 1).toNat = laF S (30 + 3 * (i : Int)) + 1 by omega]
  refine anyN_congr (fun j hj1 => ?_)
  obtain ⟨g3, g4, -, -⟩ := hj j (by omega)
  have hp := mSi_path hm (j := j) (by omega)
  unfold bocH
  rw [g3, g4, hc _ (by omega), show (((S 11 (30 + 3 * (i : Int) + (j : Int))).toNat : Nat) : Int) = S 11 (30 + 3 * (i : Int) + (j : Int)) by omega]
  have e : (binF S (10 + (i : Int)) (30 + 3 * (i : Int)) j = S 15 0 - s) ↔ (s + binF S (10 + (i : Int)) (30 + 3 * (i : Int)) j = S 15 0) := by omega
  rw [decide_eq_decide.mpr e]
theorem lat_eq {S : mS} {i : Nat} {P : mS} {s : Int} (h : PSR S (10 + (i : Int)) (30 + 3 * (i : Int)) P) : latB P (S 15 0) s = gotP S ((i : Int), s) := by
  have e : latB P (S 15 0) s = true ↔ gotP S ((i : Int), s) = true := by
    rw [gotP_iff]
    unfold latB
    rw [decide_eq_true_eq, h.lat]
  cases h1 : latB P (S 15 0) s <;> cases h2 : gotP S ((i : Int), s) <;> simp_all
theorem hit_eq {S : mS} {i : Nat} {P : mS} {s w : Int} (h : PSR S (10 + (i : Int)) (30 + 3 * (i : Int)) P) : (decide (hopF P w ≠ -1) && hitC P (hopF P w) (S 15 0) s) = hitP S w ((i : Int), s) := by
  have e : (decide (hopF P w ≠ -1) && hitC P (hopF P w) (S 15 0) s) = true ↔ hitP S w ((i : Int), s) = true := by
    unfold hitP
    rw [Bool.and_eq_true, decide_eq_true_eq, anyN_iff]
    constructor
    · rintro ⟨h1, h2⟩
      rcases hop_cases h w with q | ⟨j, j1, j2, j3⟩
      · exact absurd q h1
      · refine ⟨j, by show j < laF S (30 + 3 * (i : Int)) + 1; omega, ?_⟩
        unfold hitC at h2
        rw [j2, decide_eq_true_eq, (h.2.1 j j1).2.1, (h.2.1 j j1).2.2.1] at h2
        rw [Bool.and_eq_true, Bool.and_eq_true, decide_eq_true_eq, decide_eq_true_eq, decide_eq_true_eq]
        exact ⟨⟨j3, by show s + binF S (10 + (i : Int)) (30 + 3 * (i : Int)) j < S 15 0; omega⟩, by show S 15 0 < s + binF S (10 + (i : Int)) (30 + 3 * (i : Int)) j + S 9 (10 + (i : Int)) + S 12 (30 + 3 * (i : Int) + (j : Int)); omega⟩
    · rintro ⟨j, j1, j2⟩
      have hjl : j ≤ laF S (30 + 3 * (i : Int)) := by have : j < laF S (30 + 3 * (i : Int)) + 1 := j1; omega
      rw [Bool.and_eq_true, Bool.and_eq_true, decide_eq_true_eq, decide_eq_true_eq, decide_eq_true_eq] at j2
      obtain ⟨⟨k1, k2⟩, k3⟩ := j2
      have e := (hop_iff h (w := w) j).mpr ⟨hjl, k1⟩
      rw [e]
      refine ⟨by omega, ?_⟩
      unfold hitC
      rw [decide_eq_true_eq, (h.2.1 j hjl).2.1, (h.2.1 j hjl).2.2.1]
      have k2 : s + binF S (10 + (i : Int)) (30 + 3 * (i : Int)) j < S 15 0 := k2
      have k3 : S 15 0 < s + binF S (10 + (i : Int)) (30 + 3 * (i : Int)) j + S 9 (10 + (i : Int)) + S 12 (30 + 3 * (i : Int) + (j : Int)) := k3
      omega
  cases h1 : (decide (hopF P w ≠ -1) && hitC P (hopF P w) (S 15 0) s) <;> cases h2 : hitP S w ((i : Int), s) <;> simp_all
def onP (S : mS) (w : Int) (x : Int × Int) : Bool := anyN (laF S (30 + 3 * x.1) + 1) fun j => decide (S 11 (30 + 3 * x.1 + (j : Int)) = w) && decide (x.2 + binF S (10 + x.1) (30 + 3 * x.1) j < S 15 0) && decide (S 15 0 < x.2 + binF S (10 + x.1) (30 + 3 * x.1) j + S 9 (10 + x.1))
theorem on_eq {C S : mS} {i : Nat} {P : mS} {w : Int} (h : PSR S (10 + (i : Int)) (30 + 3 * (i : Int)) P) : hfF C i P w (S 15 0) = (stL C i).any (fun s => onP S w ((i : Int), s)) := by
  have e : hfF C i P w (S 15 0) = true ↔ (stL C i).any (fun s => onP S w ((i : Int), s)) = true := by
    unfold hfF
    rw [Bool.and_eq_true, decide_eq_true_eq, anyN_iff, List.any_eq_true]
    constructor
    · rintro ⟨h1, f, h2, h3⟩
      rcases hop_cases h w with q | ⟨j, j1, j2, j3⟩
      · exact absurd q h1
      · refine ⟨C (13 + i + 5) (f : Int), stL_mem.mpr ⟨f, h2, rfl⟩, ?_⟩
        unfold onP
        rw [anyN_iff]
        refine ⟨j, by show j < laF S (30 + 3 * (i : Int)) + 1; omega, ?_⟩
        unfold hfJ at h3
        rw [j2, Bool.and_eq_true, decide_eq_true_eq, decide_eq_true_eq, (h.2.1 j j1).2.1, h.1.2.1] at h3
        rw [Bool.and_eq_true, Bool.and_eq_true, decide_eq_true_eq, decide_eq_true_eq, decide_eq_true_eq]
        exact ⟨⟨j3, by show C (13 + i + 5) (f : Int) + binF S (10 + (i : Int)) (30 + 3 * (i : Int)) j < S 15 0; omega⟩, by show S 15 0 < C (13 + i + 5) (f : Int) + binF S (10 + (i : Int)) (30 + 3 * (i : Int)) j + S 9 (10 + (i : Int)); omega⟩
    · rintro ⟨s, h1, h2⟩
      obtain ⟨f, f1, rfl⟩ := stL_mem.mp h1
      unfold onP at h2
      rw [anyN_iff] at h2
      obtain ⟨j, j1, j2⟩ := h2
      have hjl : j ≤ laF S (30 + 3 * (i : Int)) := by have : j < laF S (30 + 3 * (i : Int)) + 1 := j1; omega
      rw [Bool.and_eq_true, Bool.and_eq_true, decide_eq_true_eq, decide_eq_true_eq, decide_eq_true_eq] at j2
      obtain ⟨⟨k1, k2⟩, k3⟩ := j2
      have e := (hop_iff h (w := w) j).mpr ⟨hjl, k1⟩
      rw [e]
      refine ⟨by omega, f, f1, ?_⟩
      unfold hfJ
      rw [Bool.and_eq_true, decide_eq_true_eq, decide_eq_true_eq, (h.2.1 j hjl).2.1, h.1.2.1]
      have k2 : C (13 + i + 5) (f : Int) + binF S (10 + (i : Int)) (30 + 3 * (i : Int)) j < S 15 0 := k2
      have k3 : S 15 0 < C (13 + i + 5) (f : Int) + binF S (10 + (i : Int)) (30 + 3 * (i : Int)) j + S 9 (10 + (i : Int)) := k3
      omega
  cases h1 : hfF C i P w (S 15 0) <;> cases h2 : (stL C i).any (fun s => onP S w ((i : Int), s)) <;> simp_all
/-- gaps bound how many there are -/
def gapL (L : List Int) : Prop := L.Pairwise (fun a b => a + 8 ≤ b)
theorem gap_len : ∀ {L : List Int} {lo hi : Int}, gapL L → (∀ s ∈ L, lo ≤ s ∧ s ≤ hi) → L = [] ∨ 8 * (L.length : Int) ≤ hi - lo + 8
  | [], _, _, _, _ => Or.inl rfl
  | a :: L, lo, hi, h, hb => by
    obtain ⟨h1, h2⟩ := List.pairwise_cons.mp h
    have ha := hb a List.mem_cons_self
    rcases gap_len (lo := lo + 8) (hi := hi) h2 (fun s hs => ⟨by have := h1 s hs; omega, (hb s (List.mem_cons_of_mem _ hs)).2⟩) with q | q
    · subst q
      refine Or.inr ?_
      show 8 * ((1 : Nat) : Int) ≤ _
      omega
    · refine Or.inr ?_
      rw [List.length_cons]
      omega
theorem gap_app {L : List Int} {t : Int} (h : gapL L) (ht : ∀ s ∈ L, s + 8 ≤ t) : gapL (L ++ [t]) := by
  unfold gapL
  rw [List.pairwise_append]
  exact ⟨h, List.pairwise_singleton _ _, fun a ha b hb => by rw [List.mem_singleton] at hb; subst hb; exact ht a ha⟩
theorem gap_flt {L : List Int} {p : Int → Bool} (h : gapL L) : gapL (L.filter p) := List.Pairwise.filter p h
theorem fl_tot : ∀ L : List (Int × Int), (∀ x ∈ L, 0 ≤ x.1 ∧ x.1 < 5) → L.length = (L.filter (fun x => decide (x.1 = 0))).length + (L.filter (fun x => decide (x.1 = 1))).length + (L.filter (fun x => decide (x.1 = 2))).length + (L.filter (fun x => decide (x.1 = 3))).length + (L.filter (fun x => decide (x.1 = 4))).length
  | [], _ => rfl
  | x :: L, h => by
    have ih := fl_tot L (fun y hy => h y (List.mem_cons_of_mem _ hy))
    have hx := h x List.mem_cons_self
    have hc : ∀ i : Int, ((x :: L).filter (fun x => decide (x.1 = i))).length = (L.filter (fun x => decide (x.1 = i))).length + if x.1 = i then 1 else 0 := fun i => by
      by_cases q : x.1 = i
      · rw [List.filter_cons_of_pos (by simpa using q), List.length_cons, if_pos q]
      · rw [List.filter_cons_of_neg (by simpa using q), if_neg q]; rfl
    rw [List.length_cons, hc, hc, hc, hc, hc, ih]
    (repeat' split) <;> omega
theorem flS_len {S : mS} {i : Int} : (flS S i).length = ((FL S).filter (fun x => decide (x.1 = i))).length := by unfold flS; rw [List.length_map]
theorem flS_mem {S : mS} {i s : Int} : s ∈ flS S i ↔ (i, s) ∈ FL S := by
  unfold flS
  rw [List.mem_map]
  constructor
  · rintro ⟨x, h1, h2⟩
    obtain ⟨h3, h4⟩ := List.mem_filter.mp h1
    have h4 := of_decide_eq_true h4
    obtain ⟨a, b⟩ := x
    cases h2
    cases h4
    exact h3
  · intro h
    exact ⟨(i, s), List.mem_filter.mpr ⟨h, decide_eq_true rfl⟩, rfl⟩
/-- the frames on their way at time t, those of this very time among them or not -/
def VF (S : mS) (n : Int) (u : Int) : Prop := 0 ≤ S 23 0 ∧ (∀ x ∈ FL S, (0 ≤ x.1 ∧ x.1 < n) ∧ (0 ≤ x.2 ∧ x.2 ≤ u) ∧ (x.2 - S 10 (10 + x.1)) % S 8 (10 + x.1) = 0 ∧ S 15 0 - x.2 ≤ latR S x.1) ∧ ∀ i, gapL (flS S i)
theorem latR_60 {S : mS} {n : Int} {Q : Nat → mS} (h : SCH S 2 n Q) {i : Int} (h0 : 0 ≤ i) (h1 : i < n) : 1 ≤ latR S i ∧ latR S i ≤ 60 ∧ (S 8 (10 + i) = 8 ∨ S 8 (10 + i) = 16 ∨ S 8 (10 + i) = 32) ∧ 0 ≤ S 10 (10 + i) ∧ S 10 (10 + i) < S 8 (10 + i) := by
  obtain ⟨j, rfl⟩ : ∃ j : Nat, i = (j : Int) := ⟨i.toNat, by omega⟩
  have hp := h.2.2.1 j h1
  rw [show (5 * 2 + (j : Int)) = 10 + (j : Int) by omega, show (15 * 2 + 3 * (j : Int)) = 30 + 3 * (j : Int) by omega] at hp
  have hl := hp.lat
  have hd := hp.2.2.1
  obtain ⟨m8, m9, m10, -, -, -, -, a0, a1, a2⟩ := hp.2.2.2.1
  have hb := binF_r hp.2.2.2.1 (laF S (30 + 3 * (j : Int))) (by have := laF_le S (30 + 3 * (j : Int)); omega)
  have ha : 0 ≤ S 12 (30 + 3 * (j : Int) + ((laF S (30 + 3 * (j : Int)) : Nat) : Int)) := by
    have hla := laF_le S (30 + 3 * (j : Int))
    rcases (show laF S (30 + 3 * (j : Int)) = 0 ∨ laF S (30 + 3 * (j : Int)) = 1 ∨ laF S (30 + 3 * (j : Int)) = 2 by omega) with q | q | q <;> rw [q]
    · simpa using a0.1
    · exact a1.1
    · exact a2.1
  refine ⟨?_, by omega, m8, m10⟩
  unfold latR
  omega
theorem VF_len {S : mS} {n : Int} {Q : Nat → mS} (h : SCH S 2 n Q) {u : Int} (hv : VF S n u) (hu : u ≤ S 15 0) (i : Int) : ((flS S i).length : Int) ≤ 8 := by
  rcases gap_len (lo := S 15 0 - 60) (hi := u) (hv.2.2 i) (fun s hs => by
    obtain ⟨h1, h2, -, h4⟩ := hv.2.1 _ (flS_mem.mp hs)
    have h1 : 0 ≤ i ∧ i < n := h1
    have h2 : 0 ≤ s ∧ s ≤ u := h2
    have h4 : S 15 0 - s ≤ latR S i := h4
    have := latR_60 h h1.1 h1.2
    omega) with q | q
  · rw [q]; decide
  · omega
theorem VF_tot {S : mS} {n : Int} {Q : Nat → mS} (h : SCH S 2 n Q) {u : Int} (hv : VF S n u) (hu : u ≤ S 15 0) : S 23 0 ≤ 40 := by
  have ht := fl_tot (FL S) (fun x hx => by have := (hv.2.1 x hx).1; have := h.1; omega)
  rw [FL_len, ← flS_len, ← flS_len, ← flS_len, ← flS_len, ← flS_len] at ht
  have h0 := VF_len h hv hu 0
  have h1 := VF_len h hv hu 1
  have h2 := VF_len h hv hu 2
  have h3 := VF_len h hv hu 3
  have h4 := VF_len h hv hu 4
  omega
/-- as a stream speaks: there is room for its frame -/
theorem VF_room {S : mS} {n : Int} {Q : Nat → mS} (h : SCH S 2 n Q) (hv : VF S n (S 15 0 - 1)) {i : Int} (h0 : 0 ≤ i) (h1 : i < n) (ht : (S 15 0 - S 10 (10 + i)) % S 8 (10 + i) = 0) : ((flS S i).length : Int) ≤ 7 ∧ ∀ s ∈ flS S i, s + 8 ≤ S 15 0 := by
  have hl := latR_60 h h0 h1
  have hk : ∀ s ∈ flS S i, S 15 0 - 56 ≤ s ∧ s ≤ S 15 0 - 8 := fun s hs => by
    obtain ⟨-, h2, h3, h4⟩ := hv.2.1 _ (flS_mem.mp hs)
    have h2 : 0 ≤ s ∧ s ≤ S 15 0 - 1 := h2
    have h3 : (s - S 10 (10 + i)) % S 8 (10 + i) = 0 := h3
    have h4 : S 15 0 - s ≤ latR S i := h4
    rcases hl.2.2.1 with q | q | q <;> rw [q] at ht h3 <;> omega
  refine ⟨?_, fun s hs => by have := hk s hs; omega⟩
  rcases gap_len (hv.2.2 i) hk with q | q
  · rw [q]; decide
  · omega
