/-! what stays true while the reference works -/
theorem itN_ind {P : mS → Prop} {f : mS → Nat → mS} (hf : ∀ T i, P T → P (f T i)) : ∀ (n : Nat) {S : mS}, P S → P (itN n f S)
  | 0, _, h => h
  | n + 1, _, h => hf _ n (itN_ind hf n h)
theorem itN_indL {P : Nat → mS → Prop} {f : mS → Nat → mS} {N : Nat} (hf : ∀ T i, i < N → P i T → P (i + 1) (f T i)) : ∀ (n : Nat) {S : mS}, n ≤ N → P 0 S → P n (itN n f S)
  | 0, _, _, h => h
  | n + 1, _, hn, h => hf _ n (by omega) (itN_indL hf n (by omega) h)
theorem mSch2 {S : mS} (h : mSch S 2) {i : Int} (h0 : 0 ≤ i) (h1 : i < S 7 2) : mSi S (10 + i) (30 + 3 * i) := by
  have := h.2 i h0 h1
  rw [show (5 * 2 + i : Int) = 10 + i by omega, show (15 * 2 + 3 * i : Int) = 30 + 3 * i by omega] at this
  exact this
/-- remove, place by place -/
theorem rm_at (f : Int) : ∀ (n : Nat) (S : mS), (∀ k, k ≠ 24 → k ≠ 25 → itN n (rm1 f) S k = S k) ∧ ∀ k, (k = 24 ∨ k = 25) → ∀ g, itN n (rm1 f) S k g = if f ≤ g ∧ g < f + (n : Int) then S k (g + 1) else S k g
  | 0, S => ⟨fun _ _ _ => rfl, fun k _ g => by rw [if_neg (by omega)]; rfl⟩
  | n + 1, S => by
    obtain ⟨h1, h2⟩ := rm_at f n S
    refine ⟨fun k q1 q2 => ?_, fun k hk g => ?_⟩
    · show rm1 f (itN n (rm1 f) S) n k = S k
      rw [← h1 k q1 q2]
      funext e
      unfold rm1
      rw [mw_k q2, mw_k q1]
    · show rm1 f (itN n (rm1 f) S) n k g = _
      generalize itN n (rm1 f) S = T at h1 h2 ⊢
      have e24 := h2 24 (Or.inl rfl)
      have e25 := h2 25 (Or.inr rfl)
      rcases hk with rfl | rfl
      · unfold rm1
        rw [mw_k (by decide)]
        by_cases hg : g = f + (n : Int)
        · subst hg
          rw [mw_s, e24, if_neg (by omega), if_pos (by omega)]
        · rw [mw_e hg, e24]
          by_cases hq : f ≤ g ∧ g < f + (n : Int)
          · rw [if_pos hq, if_pos (by omega)]
          · rw [if_neg hq, if_neg (by omega)]
      · unfold rm1
        by_cases hg : g = f + (n : Int)
        · subst hg
          rw [mw_s, mw_k (by decide), e25, if_neg (by omega), if_pos (by omega)]
        · rw [mw_e hg, mw_k (by decide), e25]
          by_cases hq : f ≤ g ∧ g < f + (n : Int)
          · rw [if_pos hq, if_pos (by omega)]
          · rw [if_neg hq, if_neg (by omega)]
theorem remF_k {S : mS} {f : Int} {k : Nat} (h1 : k ≠ 23) (h2 : k ≠ 24) (h3 : k ≠ 25) : remF S f k = S k := by
  unfold remF
  rw [(rm_at f _ _).1 k h2 h3]
  funext e
  rw [mw_k h1]
theorem remF_23 {S : mS} {f : Int} : remF S f 23 0 = S 23 0 - 1 := by
  unfold remF
  rw [(rm_at f _ _).1 23 (by decide) (by decide), mw_s]
theorem remF_at {S : mS} {f : Int} {k : Nat} (hk : k = 24 ∨ k = 25) (hf : 0 ≤ f ∧ f < S 23 0) (g : Int) : remF S f k g = if f ≤ g ∧ g < S 23 0 - 1 then S k (g + 1) else S k g := by
  unfold remF
  rw [(rm_at f _ _).2 k hk g]
  have e : f + (((S 23 0 - 1 - f).toNat : Nat) : Int) = S 23 0 - 1 := by omega
  rw [e, mw_k (by omega), mw_k (by omega)]
/-- the frames on their way, the time, the links: what the tick's parts need -/
def FW (S : mS) : Prop := (0 ≤ S 23 0 ∧ S 23 0 ≤ 64) ∧ (∀ f, 0 ≤ f → f < S 23 0 → mFm S f) ∧ mTm S ∧ ∀ l, 0 ≤ l → l < 6 → 0 ≤ S 26 l ∧ S 26 l ≤ 1
theorem mSi_k {S T : mS} {p q : Int} (h8 : S 8 = T 8) (h9 : S 9 = T 9) (h10 : S 10 = T 10) (h11 : S 11 = T 11) (h12 : S 12 = T 12) (hs : mSi T p q) : mSi S p q := by
  unfold mSi at hs ⊢
  rw [h8, h9, h10, h11, h12]
  exact hs
/-- a change of other fields -/
theorem FW_k {S T : mS} (hk : ∀ k, (8 ≤ k ∧ k ≤ 12) ∨ k = 15 ∨ k = 23 ∨ k = 24 ∨ k = 25 ∨ k = 26 → S k = T k) (h : FW T) : FW S := by
  obtain ⟨h1, h2, h3, h4⟩ := h
  have e23 := hk 23 (by omega)
  refine ⟨by rw [e23]; exact h1, fun f q1 q2 => ?_, by unfold mTm at h3 ⊢; rw [hk 15 (by omega)]; exact h3, by rw [hk 26 (by omega)]; exact h4⟩
  rw [e23] at q2
  obtain ⟨g1, g2, g3, g4⟩ := h2 f q1 q2
  unfold mFm
  rw [hk 24 (by omega), hk 25 (by omega)]
  exact ⟨g1, g2, g3, mSi_k (hk 8 (by omega)) (hk 9 (by omega)) (hk 10 (by omega)) (hk 11 (by omega)) (hk 12 (by omega)) g4⟩
theorem FW_rem {S : mS} (h : FW S) {f : Int} (hf : 0 ≤ f ∧ f < S 23 0) : FW (remF S f) := by
  obtain ⟨h1, h2, h3, h4⟩ := h
  refine ⟨by rw [remF_23]; omega, fun g q1 q2 => ?_, by unfold mTm at h3 ⊢; rw [remF_k (by decide) (by decide) (by decide)]; exact h3, by rw [remF_k (by decide) (by decide) (by decide)]; exact h4⟩
  rw [remF_23] at q2
  unfold mFm
  rw [remF_at (Or.inl rfl) hf, remF_at (Or.inr rfl) hf]
  have hmk : ∀ p q, mSi S p q → mSi (remF S f) p q := fun p q hs => mSi_k (remF_k (by decide) (by decide) (by decide)) (remF_k (by decide) (by decide) (by decide)) (remF_k (by decide) (by decide) (by decide)) (remF_k (by decide) (by decide) (by decide)) (remF_k (by decide) (by decide) (by decide)) hs
  by_cases hq : f ≤ g ∧ g < S 23 0 - 1
  · rw [if_pos hq, if_pos hq]
    obtain ⟨g1, g2, g3, g4⟩ := h2 (g + 1) (by omega) (by omega)
    exact ⟨by omega, g2, g3, hmk _ _ g4⟩
  · rw [if_neg hq, if_neg hq]
    obtain ⟨g1, g2, g3, g4⟩ := h2 g q1 (by omega)
    exact ⟨by omega, g2, g3, hmk _ _ g4⟩
/-- talkAll, an iteration -/
def tkI (S : mS) (i : Nat) (T : mS) : Prop := (∀ k, k ≠ 18 → k ≠ 21 → k ≠ 23 → k ≠ 24 → k ≠ 25 → T k = S k) ∧ (∀ j, 0 ≤ j → j < 5 → T 18 j = 0 ∨ T 18 j = 1) ∧ (0 ≤ T 23 0 ∧ T 23 0 ≤ S 23 0 + (i : Int))
theorem tkI_1 {S T : mS} {i : Nat} (h : tkI S i T) : tkI S (i + 1) (tk1 T i) := by
  obtain ⟨h1, h2, h3⟩ := h
  unfold tk1
  split
  · split
    · refine ⟨fun k q1 q2 q3 q4 q5 => by funext e; rw [mw_k q1, mw_k q2, h1 k q1 q2 q3 q4 q5], fun j q1 q2 => ?_, by rw [mw_k (by decide), mw_k (by decide)]; omega⟩
      by_cases hj : j = (i : Int)
      · subst hj; rw [mw_s]; exact Or.inr rfl
      · rw [mw_e hj, mw_k (by decide)]; exact h2 j q1 q2
    · refine ⟨fun k q1 q2 q3 q4 q5 => by funext e; rw [mw_k q3, mw_k q5, mw_k q4, h1 k q1 q2 q3 q4 q5], fun j q1 q2 => ?_, ?_⟩
      · rw [mw_k (by decide), mw_k (by decide), mw_k (by decide)]; exact h2 j q1 q2
      · rw [mw_s, mw_k (by decide), mw_k (by decide)]; omega
  · exact ⟨h1, h2, by omega⟩
theorem FW_lost {T : mS} (h : FW T) {n : Nat} (hn : (n : Int) + 1 ≤ T 23 0) : FW (if lostF T (n : Int) = true then remF (mw T 20 (T 24 (n : Int)) (T 20 (T 24 (n : Int)) + 1)) (n : Int) else T) ∧ (n : Int) ≤ (if lostF T (n : Int) = true then remF (mw T 20 (T 24 (n : Int)) (T 20 (T 24 (n : Int)) + 1)) (n : Int) else T) 23 0 := by
  split
  · have h1 : FW (mw T 20 (T 24 (n : Int)) (T 20 (T 24 (n : Int)) + 1)) := FW_k (fun k hk => funext fun e => mw_k (by omega)) h
    have e : (mw T 20 (T 24 (n : Int)) (T 20 (T 24 (n : Int)) + 1)) 23 0 = T 23 0 := mw_k (by decide)
    exact ⟨FW_rem h1 (by rw [e]; omega), by rw [remF_23, e]; omega⟩
  · exact ⟨h, by omega⟩
theorem FW_got {T : mS} (h : FW T) {f : Int} (hf : 0 ≤ f ∧ f < T 23 0) : FW (got1 T f) ∧ got1 T f 23 0 = T 23 0 - 1 := by
  unfold got1
  have h1 : FW (mw (mw T 19 (T 24 f) (T 19 (T 24 f) + 1)) 22 (T 24 f) ((mw T 19 (T 24 f) (T 19 (T 24 f) + 1)) 15 0 - (mw T 19 (T 24 f) (T 19 (T 24 f) + 1)) 25 f)) := FW_k (fun k hk => funext fun e => by rw [mw_k (by omega), mw_k (by omega)]) h
  have e : (mw (mw T 19 (T 24 f) (T 19 (T 24 f) + 1)) 22 (T 24 f) ((mw T 19 (T 24 f) (T 19 (T 24 f) + 1)) 15 0 - (mw T 19 (T 24 f) (T 19 (T 24 f) + 1)) 25 f)) 23 0 = T 23 0 := by rw [mw_k (by decide), mw_k (by decide)]
  exact ⟨FW_rem h1 (by rw [e]; omega), by rw [remF_23, e]⟩
/-- a link: what serve needs -/
def LW (S : mS) (l : Int) : Prop := (0 ≤ S 29 l ∧ S 29 l ≤ 8) ∧ (0 ≤ S 26 l ∧ S 26 l ≤ 1) ∧ (0 ≤ S 27 l ∧ S 27 l ≤ 4) ∧ (0 < S 27 l → 1 ≤ S 28 (4 * l) ∧ S 28 (4 * l) ≤ 8)
theorem sv_at (l : Int) : ∀ (n : Nat) (S : mS), ∀ k, k ≠ 28 → itN n (sv1 l) S k = S k
  | 0, _, _, _ => rfl
  | n + 1, S, k, h => by
    show sv1 l (itN n (sv1 l) S) n k = S k
    rw [← sv_at l n S k h]
    funext e
    unfold sv1
    rw [mw_k h]
theorem svB_29 {S : mS} {l : Int} : svB S l 29 l = S 28 (4 * l) := by
  unfold svB
  rw [sv_at l _ _ 29 (by decide), mw_k (by decide), mw_s]
theorem svU_ok {S : mS} {l : Int} (h : LW S l) : 0 ≤ (if svA S l = true then svB S l else S) 29 l ∧ (if svA S l = true then svB S l else S) 29 l ≤ 8 := by
  split
  · rename_i q
    unfold svA at q
    simp only [Bool.and_eq_true, decide_eq_true_eq] at q
    have := h.2.2.2 q.1.2
    rw [svB_29]
    omega
  · exact h.1
/-- what tickOnce needs, said of the states that it goes through -/
def TKa (S : mS) : Prop := (-1 ≤ S 7 1 ∧ S 7 1 ≤ 5) ∧ mTm S ∧ (0 ≤ S 23 0 ∧ S 23 0 ≤ 64) ∧ ∀ l, 0 ≤ l → l < 6 → 0 ≤ S 29 l ∧ S 29 l ≤ 8
def TKb (A : mS) : Prop := (-1 ≤ A 7 1 ∧ A 7 1 ≤ 5) ∧ mTm A ∧ mSch A 2 ∧ (∀ i, 0 ≤ i → i < 5 → (0 ≤ A 17 i ∧ A 17 i ≤ 7) ∧ (A 16 i = 0 ∨ A 16 i = 1) ∧ (A 18 i = 0 ∨ A 18 i = 1)) ∧ (0 ≤ A 23 0 ∧ A 23 0 ≤ 58)
def TKc (V : mS) (l : Int) : Prop := LW V l ∧ mTm V ∧ mSch V 2
def TK (S : mS) : Prop := TKa S ∧ TKb (tckA S) ∧ FW (tckB (tckA S)) ∧ ∀ l : Nat, l < 6 → TKc (itN l svF (flyF (tckB (tckA S)))) (l : Int)
theorem bzd_0 {P : Prop} [Decidable P] : bz (decide P) = 0 ↔ ¬ P := by rw [bz_0, decide_eq_false_iff_not]
theorem bzd_n0 {P : Prop} [Decidable P] : ¬ bz (decide P) = 0 ↔ P := by rw [bz_n0, decide_eq_true_eq]
theorem bzd {P : Prop} [Decidable P] {a : Int} (h : (P ∧ a = 1) ∨ (¬ P ∧ a = 0)) : a = bz (decide P) := by
  rcases h with ⟨h, rfl⟩ | ⟨h, rfl⟩
  · rw [decide_eq_true h]; rfl
  · rw [decide_eq_false h]; rfl
theorem thK_0 {S : mS} {i t : Int} (h : thK S i t = 0) : 0 ≤ i ∧ i < S 7 2 := by
  unfold thK at h
  split at h
  · omega
  · rename_i q
    unfold isTk at q
    simpa using q
theorem thU_0 {S : mS} {i : Int} (h : thU S i = 0) : 0 ≤ i ∧ i < S 7 2 := by
  unfold thU at h
  split at h
  · rename_i q
    unfold isTk at q
    simpa using q
  · omega
theorem thTo_0 {S : mS} {i u : Int} (h : thTo S i u = 0) : (0 ≤ i ∧ i < S 7 2) ∧ (0 ≤ u ∧ u ≤ 5) := by
  unfold thTo at h
  split at h
  · omega
  · rename_i q
    unfold isTk at q
    simp at q
    omega
theorem FW_26 {S : mS} {w on : Int} (h : FW S) (ho : on = 0 ∨ on = 1) : FW (mw S 26 w on) := by
  obtain ⟨h1, h2, h3, h4⟩ := h
  refine ⟨h1, h2, h3, fun l q1 q2 => ?_⟩
  by_cases hl : l = w
  · subst hl; rw [mw_s]; omega
  · rw [mw_e hl]; exact h4 l q1 q2
theorem FW_0 {S : mS} {e : Int} (h : FW S) : FW (mw S 0 0 e) := h
theorem cu_step {w : Int} {T : mS} (h : FW T) {n : Nat} (hn : (n : Int) + 1 ≤ T 23 0) : FW (if hitF T (n : Int) w = true then remF (mw T 20 (T 24 (n : Int)) (T 20 (T 24 (n : Int)) + 1)) (n : Int) else T) ∧ (n : Int) ≤ (if hitF T (n : Int) w = true then remF (mw T 20 (T 24 (n : Int)) (T 20 (T 24 (n : Int)) + 1)) (n : Int) else T) 23 0 := by
  split
  · have h1 : FW (mw T 20 (T 24 (n : Int)) (T 20 (T 24 (n : Int)) + 1)) := FW_k (fun k hk => funext fun e => mw_k (by omega)) h
    have e : (mw T 20 (T 24 (n : Int)) (T 20 (T 24 (n : Int)) + 1)) 23 0 = T 23 0 := mw_k (by decide)
    exact ⟨FW_rem h1 (by rw [e]; omega), by rw [remF_23, e]; omega⟩
  · exact ⟨h, by omega⟩
def strS (S : mS) (p s d a b c : Int) : mS :=
  if thSm S p s d a b c = 0 then mw (mw (mw (mw (mw (mw (mw (mw S 0 0 (thSm S p s d a b c)) 3 (S 2 0) p) 4 (S 2 0) s) 5 (S 2 0) d) 6 (3 * S 2 0) a) 6 (3 * S 2 0 + 1) b) 6 (3 * S 2 0 + 2) c) 2 0 (S 2 0 + 1)
  else mw S 0 0 (thSm S p s d a b c)
def strRt (S : mS) (p s d a b c : Int) : Int := if thSm S p s d a b c = 0 then S 2 0 else 0
/-- the search: the state behind it, and how it ended (-1, 0, 1) -/
def bl (most : Int) : Nat → mS → Int → mS × Int
  | 0, T, _ => (T, 0)
  | n + 1, T, i => if ¬ (0 ≤ i ∧ i < T 2 0) then (T, if i < 0 then 0 else 1)
    else if T 14 i + 1 = T 3 i then bl most n (mw (mw T 14 i (T 14 i + 1)) 14 i (-1)) (i - 1)
    else if T 13 0 = most then (mw T 14 i (T 14 i + 1), -1)
    else bl most n (mw (mw T 14 i (T 14 i + 1)) 13 0 (T 13 0 + 1)) (if goodF (mw (mw T 14 i (T 14 i + 1)) 13 0 (T 13 0 + 1)) i.toNat = true then i + 1 else i)
def thBd (most : Int) : Int := if most < 0 ∨ 20000 < most then 1 else 0
def bl0 (S : mS) : mS := itN 5 (fun T k => mw T 14 (k : Int) (-1)) (mw (mw S 0 0 0) 13 0 0)
def blR (S : mS) (most : Int) : mS × Int := bl most (2 * most.toNat + 8) (bl0 S) 0
def bldS (S : mS) (most : Int) : mS := if thBd most = 0 then (if (blR S most).2 = 1 then keepF (blR S most).1 else (blR S most).1) else mw S 0 0 (thBd most)
def bldR (S : mS) (most : Int) : Int := if thBd most = 0 then (blR S most).2 else 0
/-- what stays true in the search -/
def BW (S T : mS) (most : Int) : Prop := (∀ k, k ≠ 0 → k ≠ 13 → k ≠ 14 → T k = S k) ∧ (0 ≤ T 13 0 ∧ T 13 0 ≤ most) ∧ ∀ j, 0 ≤ j → j < 5 → -1 ≤ T 14 j ∧ T 14 j ≤ 31 ∧ (j < S 2 0 → T 14 j < S 3 j)
section ZTSW
variable {l0 : Launch} {Γ : gC} {cc : ByteArray} {own : String} {nL : Nat} {R0 : Room} {σ : hS} {kc ks pc : Nat} {ls : gLs} {st : List Value}
theorem z_tswIn {dflt lo hi : Int} {offs : Array Int} {len : Nat} {a : Int} {off : Int} {tgt : Nat} (cx : CX l0 Γ cc own nL R0) (d : decode cc pc = .ok (.tableswitch dflt lo hi offs, len)) (h1 : lo ≤ a ∧ a ≤ hi) (hr : -2147483648 ≤ a ∧ a ≤ 2147483647) (ho : offs[(a - lo).toNat]? = some off) (ht : (pc : Int) + off = (tgt : Int)) (k : G Γ σ kc ks tgt ls st) : G Γ σ kc ks pc ls (.int (iI a) :: st) :=
  g_tswIn cx d (by rw [iI_toInt hr]; omega) (by rw [iI_toInt hr]; omega) (by rw [iI_toInt hr]; exact ho) ht k
theorem z_tswOut {dflt lo hi : Int} {offs : Array Int} {len : Nat} {a : Int} {tgt : Nat} (cx : CX l0 Γ cc own nL R0) (d : decode cc pc = .ok (.tableswitch dflt lo hi offs, len)) (h : a < lo ∨ hi < a) (hr : -2147483648 ≤ a ∧ a ≤ 2147483647) (ht : (pc : Int) + dflt = (tgt : Int)) (k : G Γ σ kc ks tgt ls st) : G Γ σ kc ks pc ls (.int (iI a) :: st) :=
  g_tswOut cx d (by rw [iI_toInt hr]; exact h) ht k
end ZTSW
theorem begO_0 {S : mS} {e f : Int} {j : Nat} : begO (mw S 0 0 e) f j = begO S f j := by
  unfold begO
  rw [binF_eq (sEq_0 (S := S) (e := e)), mw_k (by decide), mw_k (by decide)]
theorem onF_0 {S : mS} {e w : Int} : onF (mw S 0 0 e) w = onF S w := by
  have h1 : onFr (mw S 0 0 e) w = onFr S w := funext fun f => by
    unfold onFr
    have h2 : onJ (mw S 0 0 e) w (f : Int) = onJ S w (f : Int) := funext fun j => by
      unfold onJ
      rw [begO_0]
      rfl
    rw [h2]
    rfl
  unfold onF
  rw [h1]
  rfl
