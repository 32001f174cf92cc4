/-! the frames on their way, as lists -/
def FL (S : mS) : List (Int × Int) := (List.range (S 23 0).toNat).map (fun f : Nat => (S 24 (f : Int), S 25 (f : Int)))
theorem FL_len (S : mS) : (FL S).length = (S 23 0).toNat := by unfold FL; rw [List.length_map, List.length_range]
theorem FL_get {S : mS} {f : Nat} (h : f < (FL S).length) : (FL S)[f] = (S 24 (f : Int), S 25 (f : Int)) := by simp only [FL, List.getElem_map, List.getElem_range]
theorem FL_k {S T : mS} (h23 : T 23 = S 23) (h24 : T 24 = S 24) (h25 : T 25 = S 25) : FL T = FL S := by unfold FL; rw [h23, h24, h25]
theorem FL_rem {S : mS} {f : Nat} (hf : (f : Int) < S 23 0) : FL (remF S (f : Int)) = (FL S).take f ++ (FL S).drop (f + 1) := by
  have hl : f < (FL S).length := by rw [FL_len]; omega
  have l1 : (FL (remF S (f : Int))).length = (S 23 0).toNat - 1 := by rw [FL_len, remF_23]; omega
  have l2 : ((FL S).take f ++ (FL S).drop (f + 1)).length = (S 23 0).toNat - 1 := by rw [List.length_append, List.length_take, List.length_drop, FL_len]; omega
  refine List.ext_getElem (l1.trans l2.symm) (fun i h1 h2 => ?_)
  have hi : i < (S 23 0).toNat - 1 := by omega
  rw [FL_get h1, remF_at (Or.inl rfl) ⟨by omega, hf⟩, remF_at (Or.inr rfl) ⟨by omega, hf⟩]
  by_cases h : i < f
  · rw [if_neg (by omega), if_neg (by omega), List.getElem_append_left (by rw [List.length_take]; omega), List.getElem_take, FL_get]
  · rw [if_pos (by omega), if_pos (by omega), List.getElem_append_right (by rw [List.length_take]; omega), List.getElem_drop, FL_get]
    have e : f + 1 + (i - (List.take f (FL S)).length) = i + 1 := by rw [List.length_take]; omega
    simp only [e]
    rfl
/-- frames taken out, from the last one on -/
def rmv (pr : Int × Int → Bool) : Nat → mS → mS
  | 0, S => S
  | n + 1, S => rmv pr n (if pr (S 24 (n : Int), S 25 (n : Int)) = true then remF (mw S 20 (S 24 (n : Int)) (S 20 (S 24 (n : Int)) + 1)) (n : Int) else S)
theorem tk_s {α : Type} {L : List α} {n : Nat} (h : n < L.length) : L.take (n + 1) = L.take n ++ [L[n]] := List.take_succ_eq_append_getElem h
theorem rmv_ok {pr : Int × Int → Bool} : ∀ (n : Nat) (S : mS), 0 ≤ S 23 0 → n ≤ (FL S).length → FL (rmv pr n S) = ((FL S).take n).filter (fun x => !pr x) ++ (FL S).drop n ∧ (∀ k, k ≠ 20 → k ≠ 23 → k ≠ 24 → k ≠ 25 → rmv pr n S k = S k) ∧ (∀ i, rmv pr n S 20 i = S 20 i + ((((FL S).take n).countP (fun x => decide (x.1 = i) && pr x) : Nat) : Int)) ∧ 0 ≤ rmv pr n S 23 0
  | 0, S, h0, _ => by
    refine ⟨?_, fun _ _ _ _ _ => rfl, fun i => ?_, h0⟩
    · rw [List.take_zero, List.filter_nil, List.drop_zero]; rfl
    · rw [List.take_zero, List.countP_nil]; show S 20 i = S 20 i + ((0 : Nat) : Int); omega
  | n + 1, S, h0, hn => by
    have hl : n < (FL S).length := by omega
    have hS : (n : Int) < S 23 0 := by rw [FL_len] at hl; omega
    have hx := FL_get hl
    rw [tk_s hl, hx, List.filter_append, rmv]
    simp only [List.countP_append]
    by_cases hp : pr (S 24 (n : Int), S 25 (n : Int)) = true
    · rw [if_pos hp]
      have f1 : FL (mw S 20 (S 24 (n : Int)) (S 20 (S 24 (n : Int)) + 1)) = FL S := FL_k (mw_ne 23 (by decide)) (mw_ne 24 (by decide)) (mw_ne 25 (by decide))
      have f2 : FL (remF (mw S 20 (S 24 (n : Int)) (S 20 (S 24 (n : Int)) + 1)) (n : Int)) = (FL S).take n ++ (FL S).drop (n + 1) := by rw [FL_rem (by rw [mw_k (by decide)]; exact hS), f1]
      have lt : ((FL S).take n).length = n := by rw [List.length_take]; omega
      obtain ⟨g1, g2, g3, g4⟩ := rmv_ok (pr := pr) n (remF (mw S 20 (S 24 (n : Int)) (S 20 (S 24 (n : Int)) + 1)) (n : Int)) (by rw [remF_23, mw_k (by decide)]; omega) (by rw [f2, List.length_append, lt]; omega)
      rw [f2, List.take_left' lt, List.drop_left' lt] at g1
      rw [f2, List.take_left' lt] at g3
      refine ⟨?_, fun k a b c d => ?_, fun i => ?_, g4⟩
      · rw [g1, List.filter_cons_of_neg (by rw [hp]; decide), List.filter_nil, List.append_nil]
      · rw [g2 k a b c d, remF_k b c d, mw_ne k a]
      · rw [g3 i, remF_k (by decide) (by decide) (by decide), mw_at]
        by_cases hi : i = S 24 (n : Int)
        · subst hi
          rw [if_pos ⟨rfl, rfl⟩, List.countP_cons_of_pos (by simp [hp]), List.countP_nil]
          omega
        · rw [if_neg (fun q => hi q.2), List.countP_cons_of_neg (by simp; intro q; exact absurd q.symm hi), List.countP_nil]
          omega
    · rw [if_neg hp]
      obtain ⟨g1, g2, g3, g4⟩ := rmv_ok (pr := pr) n S h0 (by omega)
      refine ⟨?_, g2, fun i => ?_, g4⟩
      · rw [g1, List.filter_cons_of_pos (by simpa using hp), List.filter_nil, List.append_assoc, List.singleton_append, ← hx, List.getElem_cons_drop]
      · rw [g3 i, List.countP_cons_of_neg (by simp [hp]), List.countP_nil]
        rfl
def lostP (S : mS) (x : Int × Int) : Bool := anyN (laF S (30 + 3 * x.1) + 1) fun j => decide (x.2 + binF S (10 + x.1) (30 + 3 * x.1) j = S 15 0) && decide (S 26 (S 11 (30 + 3 * x.1 + (j : Int))) ≠ 0)
def hitP (S : mS) (w : Int) (x : Int × Int) : Bool := anyN (laF S (30 + 3 * x.1) + 1) fun j => decide (S 11 (30 + 3 * x.1 + (j : Int)) = w) && decide (x.2 + binF S (10 + x.1) (30 + 3 * x.1) j < S 15 0) && decide (S 15 0 < x.2 + binF S (10 + x.1) (30 + 3 * x.1) j + S 9 (10 + x.1) + S 12 (30 + 3 * x.1 + (j : Int)))
def latR (S : mS) (i : Int) : Int := binF S (10 + i) (30 + 3 * i) (laF S (30 + 3 * i)) + S 9 (10 + i) + S 12 (30 + 3 * i + ((laF S (30 + 3 * i) : Nat) : Int))
def gotP (S : mS) (x : Int × Int) : Bool := decide (x.2 + binF S (10 + x.1) (30 + 3 * x.1) (laF S (30 + 3 * x.1)) + S 9 (10 + x.1) + S 12 (30 + 3 * x.1 + ((laF S (30 + 3 * x.1) : Nat) : Int)) = S 15 0)
theorem gotP_iff {S : mS} {x : Int × Int} : gotP S x = true ↔ S 15 0 - x.2 = latR S x.1 := by
  unfold gotP latR
  rw [decide_eq_true_eq]
  omega
/-- the rows that these look at -/
def stR (S T : mS) : Prop := ∀ k, (7 ≤ k ∧ k ≤ 12) ∨ k = 15 ∨ k = 26 → T k = S k
theorem binF_st {S T : mS} (h : stR S T) (p q : Int) (j : Nat) : binF T p q j = binF S p q j := binF_eq (fun k h1 h2 => h k (Or.inl ⟨h1, h2⟩)) p q j
theorem laF_st {S T : mS} (h : stR S T) (q : Int) : laF T q = laF S q := by unfold laF; rw [h 11 (by omega)]
theorem lostP_st {S T : mS} (h : stR S T) : lostP T = lostP S := funext fun x => by
  unfold lostP
  rw [laF_st h, h 15 (by omega), h 26 (by omega), h 11 (by omega)]
  congr 1
  funext j
  rw [binF_st h]
theorem hitP_st {S T : mS} (h : stR S T) (w : Int) : hitP T w = hitP S w := funext fun x => by
  unfold hitP
  rw [laF_st h, h 15 (by omega), h 9 (by omega), h 11 (by omega), h 12 (by omega)]
  congr 1
  funext j
  rw [binF_st h]
theorem gotP_st {S T : mS} (h : stR S T) : gotP T = gotP S := funext fun x => by
  unfold gotP
  rw [laF_st h, h 15 (by omega), h 9 (by omega), h 12 (by omega), binF_st h]
theorem latR_st {S T : mS} (h : stR S T) (i : Int) : latR T i = latR S i := by
  unfold latR
  rw [laF_st h, h 9 (by omega), h 12 (by omega), binF_st h]
theorem rem_st {S : mS} {i f v : Int} : stR S (remF (mw S 20 i v) f) := fun k hk => by rw [remF_k (by omega) (by omega) (by omega), mw_ne k (by omega)]
theorem fl1_rmv {S0 : mS} : ∀ (n : Nat) (S : mS), stR S0 S → fl1 n S = rmv (lostP S0) n S
  | 0, _, _ => rfl
  | n + 1, S, h => by
    rw [fl1, rmv, ← lostP_st h]
    show fl1 n (if lostP S (S 24 (n : Int), S 25 (n : Int)) = true then _ else S) = _
    rw [lostP_st h]
    refine fl1_rmv n _ ?_
    split
    · exact fun k hk => (rem_st k hk).trans (h k hk)
    · exact h
theorem cu1_rmv {S0 : mS} {w : Int} : ∀ (n : Nat) (S : mS), stR S0 S → cu1 w n S = rmv (hitP S0 w) n S
  | 0, _, _ => rfl
  | n + 1, S, h => by
    rw [cu1, rmv, ← hitP_st h]
    show cu1 w n (if hitP S w (S 24 (n : Int), S 25 (n : Int)) = true then _ else S) = _
    rw [hitP_st h]
    refine cu1_rmv n _ ?_
    split
    · exact fun k hk => (rem_st k hk).trans (h k hk)
    · exact h
theorem got1_k {S : mS} {f : Int} {k : Nat} (h1 : k ≠ 19) (h2 : k ≠ 22) (h3 : k ≠ 23) (h4 : k ≠ 24) (h5 : k ≠ 25) : got1 S f k = S k := by
  unfold got1
  rw [remF_k h3 h4 h5, mw_ne k h2, mw_ne k h1]
theorem fl2_ok : ∀ (n : Nat) (S : mS) (f : Nat), (FL S).length - f ≤ n → f ≤ (FL S).length → FL (fl2 n S (f : Int)) = (FL S).take f ++ ((FL S).drop f).filter (fun x => !gotP S x) ∧ (∀ k, k ≠ 19 → k ≠ 22 → k ≠ 23 → k ≠ 24 → k ≠ 25 → fl2 n S (f : Int) k = S k) ∧ (∀ i, fl2 n S (f : Int) 19 i = S 19 i + ((((FL S).drop f).countP (fun x => decide (x.1 = i) && gotP S x) : Nat) : Int)) ∧ (∀ i, fl2 n S (f : Int) 22 i = if ((FL S).drop f).any (fun x => decide (x.1 = i) && gotP S x) = true then latR S i else S 22 i) ∧ (0 ≤ S 23 0 → 0 ≤ fl2 n S (f : Int) 23 0)
  | 0, S, f, h1, h2 => by
    have e : (FL S).drop f = [] := List.drop_eq_nil_of_le (by omega)
    refine ⟨?_, fun _ _ _ _ _ _ => rfl, fun i => ?_, fun i => ?_, fun h => h⟩
    · rw [e, List.filter_nil, List.append_nil, List.take_of_length_le (by omega)]; rfl
    · rw [e, List.countP_nil]; show S 19 i = S 19 i + ((0 : Nat) : Int); omega
    · rw [e]; rfl
  | n + 1, S, f, h1, h2 => by
    rw [fl2]
    by_cases hf : (f : Int) < S 23 0
    · have hl : f < (FL S).length := by rw [FL_len]; omega
      have hx := FL_get hl
      have hd : (FL S).drop f = (S 24 (f : Int), S 25 (f : Int)) :: (FL S).drop (f + 1) := by rw [← hx, List.getElem_cons_drop]
      rw [if_pos hf]
      by_cases hg : thrO S (f : Int) (laF S (30 + 3 * S 24 (f : Int))) = S 15 0
      · have hgp : gotP S (S 24 (f : Int), S 25 (f : Int)) = true := decide_eq_true hg
        rw [if_pos hg]
        have f1 : FL (mw (mw S 19 (S 24 (f : Int)) (S 19 (S 24 (f : Int)) + 1)) 22 (S 24 (f : Int)) ((mw S 19 (S 24 (f : Int)) (S 19 (S 24 (f : Int)) + 1)) 15 0 - (mw S 19 (S 24 (f : Int)) (S 19 (S 24 (f : Int)) + 1)) 25 (f : Int))) = FL S := FL_k ((mw_ne 23 (by decide)).trans (mw_ne 23 (by decide))) ((mw_ne 24 (by decide)).trans (mw_ne 24 (by decide))) ((mw_ne 25 (by decide)).trans (mw_ne 25 (by decide)))
        have f2 : FL (got1 S (f : Int)) = (FL S).take f ++ (FL S).drop (f + 1) := by unfold got1; rw [FL_rem (by rw [mw_k (by decide), mw_k (by decide)]; exact hf), f1]
        have lt : ((FL S).take f).length = f := by rw [List.length_take]; omega
        have hst : stR S (got1 S (f : Int)) := fun k hk => got1_k (by omega) (by omega) (by omega) (by omega) (by omega)
        have l2 : (FL (got1 S (f : Int))).length = (FL S).length - 1 := by rw [f2, List.length_append, lt, List.length_drop]; omega
        obtain ⟨g1, g2, g3, g4, g5⟩ := fl2_ok n (got1 S (f : Int)) f (by rw [l2]; omega) (by rw [l2]; omega)
        rw [f2, List.take_left' lt, List.drop_left' lt, gotP_st hst] at g1
        rw [f2, List.drop_left' lt, gotP_st hst] at g3 g4
        have e19 : ∀ i, got1 S (f : Int) 19 i = if i = S 24 (f : Int) then S 19 i + 1 else S 19 i := fun i => by
          unfold got1
          rw [remF_k (by decide) (by decide) (by decide), mw_k (by decide), mw_at]
          by_cases q : i = S 24 (f : Int)
          · subst q; rw [if_pos ⟨rfl, rfl⟩, if_pos rfl]
          · rw [if_neg (fun z => q z.2), if_neg q]
        have e22 : ∀ i, got1 S (f : Int) 22 i = if i = S 24 (f : Int) then latR S i else S 22 i := fun i => by
          unfold got1
          rw [remF_k (by decide) (by decide) (by decide), mw_at]
          by_cases q : i = S 24 (f : Int)
          · subst q
            rw [if_pos ⟨rfl, rfl⟩, if_pos rfl, mw_k (by decide), mw_k (by decide)]
            exact gotP_iff.mp hgp
          · rw [if_neg (fun z => q z.2), if_neg q, mw_k (by decide)]
        refine ⟨?_, fun k a b c d e => ?_, fun i => ?_, fun i => ?_, fun h => g5 (by unfold got1; rw [remF_23, mw_k (by decide), mw_k (by decide)]; omega)⟩
        · rw [g1, hd, List.filter_cons_of_neg (by rw [hgp]; decide)]
        · rw [g2 k a b c d e, got1_k a b c d e]
        · rw [g3 i, hd, e19]
          by_cases q : i = S 24 (f : Int)
          · subst q; rw [if_pos rfl, List.countP_cons_of_pos (by simp [hgp])]; omega
          · rw [if_neg q, List.countP_cons_of_neg (by simp; intro z; exact absurd z.symm q)]
        · rw [g4 i, hd, List.any_cons, e22]
          by_cases q : i = S 24 (f : Int)
          · subst q
            rw [if_pos rfl, hgp]
            have : (decide (S 24 (f : Int) = S 24 (f : Int)) && true) = true := by simp
            rw [this, Bool.true_or, if_pos rfl, latR_st hst]
            split <;> rfl
          · rw [if_neg q]
            have : (decide (S 24 (f : Int) = i) && gotP S (S 24 (f : Int), S 25 (f : Int))) = false := by rw [decide_eq_false (fun z => q z.symm), Bool.false_and]
            rw [this, Bool.false_or, latR_st hst]
      · have hgp : gotP S (S 24 (f : Int), S 25 (f : Int)) = false := decide_eq_false hg
        rw [if_neg hg, show (f : Int) + 1 = ((f + 1 : Nat) : Int) by omega]
        obtain ⟨g1, g2, g3, g4, g5⟩ := fl2_ok n S (f + 1) (by omega) (by omega)
        refine ⟨?_, g2, fun i => ?_, fun i => ?_, g5⟩
        · rw [g1, hd, List.filter_cons_of_pos (by rw [hgp]; decide), tk_s hl, hx, List.append_assoc, List.singleton_append]
        · rw [g3 i, hd, List.countP_cons_of_neg (by simp [hgp])]
        · rw [g4 i, hd, List.any_cons, hgp, Bool.and_false, Bool.false_or]
    · have hl : (FL S).length ≤ f := by rw [FL_len]; omega
      have e : (FL S).drop f = [] := List.drop_eq_nil_of_le hl
      rw [if_neg hf]
      refine ⟨?_, fun _ _ _ _ _ _ => rfl, fun i => ?_, fun i => ?_, fun h => h⟩
      · rw [e, List.filter_nil, List.append_nil, List.take_of_length_le hl]
      · rw [e, List.countP_nil]; omega
      · rw [e]; rfl
/-- one stream's frames -/
def flS (S : mS) (i : Int) : List Int := ((FL S).filter (fun x => decide (x.1 = i))).map Prod.snd
theorem flt_i {p : Int × Int → Bool} {i : Int} : ∀ L : List (Int × Int), ((L.filter p).filter (fun x => decide (x.1 = i))).map Prod.snd = (((L.filter (fun x => decide (x.1 = i))).map Prod.snd).filter (fun s => p (i, s)))
  | [] => rfl
  | x :: L => by
    have ih := flt_i (p := p) (i := i) L
    by_cases hi : x.1 = i
    · subst hi
      by_cases hp : p x = true
      · rw [List.filter_cons_of_pos hp, List.filter_cons_of_pos (by simp), List.filter_cons_of_pos (by simp), List.map_cons, List.map_cons, List.filter_cons_of_pos (p := fun s => p (x.1, s)) (show p (x.1, x.2) = true from hp), ih]
      · rw [List.filter_cons_of_neg hp, List.filter_cons_of_pos (by simp), List.map_cons, List.filter_cons_of_neg (p := fun s => p (x.1, s)) (show ¬ p (x.1, x.2) = true from hp), ih]
    · rw [List.filter_cons_of_neg (p := fun x : Int × Int => decide (x.1 = i)) (by simpa using hi)]
      by_cases hp : p x = true
      · rw [List.filter_cons_of_pos hp, List.filter_cons_of_neg (by simpa using hi), ih]
      · rw [List.filter_cons_of_neg hp, ih]
theorem cnt_i {p : Int × Int → Bool} {i : Int} : ∀ L : List (Int × Int), L.countP (fun x => decide (x.1 = i) && p x) = ((L.filter (fun x => decide (x.1 = i))).map Prod.snd).countP (fun s => p (i, s))
  | [] => rfl
  | x :: L => by
    have ih := cnt_i (p := p) (i := i) L
    by_cases hi : x.1 = i
    · subst hi
      rw [List.filter_cons_of_pos (by simp), List.map_cons]
      by_cases hp : p x = true
      · rw [List.countP_cons_of_pos (by simp [hp]), List.countP_cons_of_pos (p := fun s => p (x.1, s)) (show p (x.1, x.2) = true from hp), ih]
      · rw [List.countP_cons_of_neg (by simp [hp]), List.countP_cons_of_neg (p := fun s => p (x.1, s)) (show ¬ p (x.1, x.2) = true from hp), ih]
    · rw [List.filter_cons_of_neg (by simpa using hi), List.countP_cons_of_neg (by simp; intro z; exact absurd z hi), ih]
theorem any_i {p : Int × Int → Bool} {i : Int} : ∀ L : List (Int × Int), L.any (fun x => decide (x.1 = i) && p x) = ((L.filter (fun x => decide (x.1 = i))).map Prod.snd).any (fun s => p (i, s))
  | [] => rfl
  | x :: L => by
    have ih := any_i (p := p) (i := i) L
    by_cases hi : x.1 = i
    · subst hi
      rw [List.filter_cons_of_pos (by simp), List.map_cons, List.any_cons, List.any_cons, ih]
      simp
    · rw [List.filter_cons_of_neg (by simpa using hi), List.any_cons, ih, decide_eq_false hi, Bool.false_and, Bool.false_or]
