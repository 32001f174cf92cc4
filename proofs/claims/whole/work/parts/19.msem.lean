/-! what the reference's methods compute: pure words -/
theorem bz_r (b : Bool) : 0 ≤ bz b ∧ bz b ≤ 1 := by cases b <;> decide
theorem bz_1 {b : Bool} : bz b = 1 ↔ b = true := by cases b <;> decide
theorem bz_0 {b : Bool} : bz b = 0 ↔ b = false := by cases b <;> decide
theorem bz_n0 {b : Bool} : ¬ bz b = 0 ↔ b = true := by cases b <;> decide
def anyN : Nat → (Nat → Bool) → Bool
  | 0, _ => false
  | n + 1, f => anyN n f || f n
theorem anyN_iff {n : Nat} {f : Nat → Bool} : anyN n f = true ↔ ∃ k, k < n ∧ f k = true := by
  induction n with
  | zero => exact ⟨fun h => (by cases h), fun ⟨k, h, _⟩ => absurd h (Nat.not_lt_zero _)⟩
  | succ n ih =>
    show (anyN n f || f n) = true ↔ _
    rw [Bool.or_eq_true, ih]
    constructor
    · rintro (⟨k, h1, h2⟩ | h)
      · exact ⟨k, Nat.lt_succ_of_lt h1, h2⟩
      · exact ⟨n, Nat.lt_succ_self n, h⟩
    · rintro ⟨k, h1, h2⟩
      rcases Nat.lt_succ_iff_lt_or_eq.mp h1 with h | h
      · exact Or.inl ⟨k, h, h2⟩
      · exact Or.inr (h ▸ h2)
def allN : Nat → (Nat → Bool) → Bool
  | 0, _ => true
  | n + 1, f => allN n f && f n
theorem allN_iff {n : Nat} {f : Nat → Bool} : allN n f = true ↔ ∀ k, k < n → f k = true := by
  induction n with
  | zero => exact ⟨fun _ k h => absurd h (Nat.not_lt_zero _), fun _ => rfl⟩
  | succ n ih =>
    show (allN n f && f n) = true ↔ _
    rw [Bool.and_eq_true, ih]
    constructor
    · rintro ⟨h1, h2⟩ k hk
      rcases Nat.lt_succ_iff_lt_or_eq.mp hk with h | h
      · exact h1 k h
      · exact h ▸ h2
    · intro h
      exact ⟨fun k hk => h k (Nat.lt_succ_of_lt hk), h n (Nat.lt_succ_self n)⟩
theorem g_l {Γ : gC} {σ : hS} {kc ks pc : Nat} {ls ls' : gLs} {st : List Value} (k : G Γ σ kc ks pc ls st) (h : ls' = ls) : G Γ σ kc ks pc ls' st := h ▸ k
theorem tmod_mod {a n : Int} (hn : 0 < n) : (a.tmod n + n).tmod n = a % n := by
  have h1 : -n < a.tmod n ∧ a.tmod n < n := by
    rcases Int.le_total 0 a with h | h
    · rw [Int.tmod_eq_emod_of_nonneg h]
      have := Int.emod_nonneg a (by omega : n ≠ 0)
      have := Int.emod_lt_of_pos a hn
      omega
    · have h2 : a.tmod n = -((-a).tmod n) := by rw [Int.neg_tmod]; omega
      rw [h2, Int.tmod_eq_emod_of_nonneg (by omega)]
      have := Int.emod_nonneg (-a) (by omega : n ≠ 0)
      have := Int.emod_lt_of_pos (-a) hn
      omega
  rw [Int.tmod_eq_emod_of_nonneg (by omega)]
  have h3 : a.tmod n + n = a + n * (1 - a.tdiv n) := by
    have := Int.tdiv_mul_add_tmod a n
    rw [Int.mul_sub, Int.mul_one, Int.mul_comm]
    omega
  rw [h3, Int.add_mul_emod_self_left]
theorem tmod_r (a n : Int) (hn : 0 < n) : -n < a.tmod n ∧ a.tmod n < n := by
  rcases Int.le_total 0 a with h | h
  · rw [Int.tmod_eq_emod_of_nonneg h]
    have := Int.emod_nonneg a (by omega : n ≠ 0)
    have := Int.emod_lt_of_pos a hn
    omega
  · have h2 : a.tmod n = -((-a).tmod n) := by rw [Int.neg_tmod]; omega
    rw [h2, Int.tmod_eq_emod_of_nonneg (by omega)]
    have := Int.emod_nonneg (-a) (by omega : n ≠ 0)
    have := Int.emod_lt_of_pos (-a) hn
    omega
/-- the reference's streams (those added): their rows as the document has them -/
def mSt (S : mS) (i : Int) : Prop := (S 3 i = 8 ∨ S 3 i = 16 ∨ S 3 i = 32) ∧ (1 ≤ S 4 i ∧ S 4 i ≤ 4) ∧ (1 ≤ S 5 i ∧ S 5 i ≤ 60) ∧ (0 ≤ S 6 (3 * i) ∧ S 6 (3 * i) < 6) ∧ (-1 ≤ S 6 (3 * i + 1) ∧ S 6 (3 * i + 1) < 6) ∧ (-1 ≤ S 6 (3 * i + 2) ∧ S 6 (3 * i + 2) < 6) ∧ (S 6 (3 * i + 1) = -1 → S 6 (3 * i + 2) = -1)
def mDl (S : mS) : Prop := ∀ l, 0 ≤ l → l < 6 → 0 ≤ S 1 l ∧ S 1 l ≤ 9
def begF (S : mS) (i : Int) : Nat → Int
  | 0 => 0
  | k + 1 => begF S i k + S 4 i + S 1 (S 6 (3 * i + (k : Int))) + 2
theorem begF_r {S : mS} {i : Int} (hd : mDl S) (h4 : 1 ≤ S 4 i ∧ S 4 i ≤ 4) : ∀ (k : Nat), (∀ q : Nat, q < k → 0 ≤ S 6 (3 * i + (q : Int)) ∧ S 6 (3 * i + (q : Int)) < 6) → 0 ≤ begF S i k ∧ begF S i k ≤ 15 * (k : Int)
  | 0, _ => ⟨Int.le_refl _, Int.le_refl _⟩
  | k + 1, h => by
    have h1 := begF_r hd h4 k (fun q hq => h q (Nat.lt_succ_of_lt hq))
    have h2 := h k (Nat.lt_succ_self k)
    have h3 := hd _ h2.1 h2.2
    show 0 ≤ begF S i k + S 4 i + S 1 (S 6 (3 * i + (k : Int))) + 2 ∧ begF S i k + S 4 i + S 1 (S 6 (3 * i + (k : Int))) + 2 ≤ 15 * ((k + 1 : Nat) : Int)
    omega
def lastF (S : mS) (i : Int) : Nat := if 0 ≤ S 6 (3 * i + 2) then 2 else if 0 ≤ S 6 (3 * i + 1) then 1 else 0
theorem mSt_path {S : mS} {i : Int} (h : mSt S i) {j : Nat} (hj : j ≤ lastF S i) : 0 ≤ S 6 (3 * i + (j : Int)) ∧ S 6 (3 * i + (j : Int)) < 6 := by
  obtain ⟨-, -, -, h0, h1, h2, h3⟩ := h
  unfold lastF at hj
  split at hj
  · match j, hj with
    | 0, _ => simpa using h0
    | 1, _ => exact ⟨show 0 ≤ S 6 (3 * i + 1) by omega, h1.2⟩
    | 2, _ => exact ⟨show 0 ≤ S 6 (3 * i + 2) by omega, h2.2⟩
  · split at hj
    · match j, hj with
      | 0, _ => simpa using h0
      | 1, _ => exact ⟨show 0 ≤ S 6 (3 * i + 1) by omega, h1.2⟩
    · match j, hj with
      | 0, _ => simpa using h0
/-- path entries ahead of one that is a link are links -/
theorem mSt_pre {S : mS} {i : Int} (h : mSt S i) {x : Nat} (hx : x < 3) (h0 : 0 ≤ S 6 (3 * i + (x : Int))) : ∀ q : Nat, q < x → 0 ≤ S 6 (3 * i + (q : Int)) ∧ S 6 (3 * i + (q : Int)) < 6 := by
  obtain ⟨-, -, -, k0, k1, k2, k3⟩ := h
  intro q hq
  match x, hx, hq with
  | 1, _, hq =>
    obtain rfl : q = 0 := by omega
    simpa using k0
  | 2, _, hq =>
    have h0' : 0 ≤ S 6 (3 * i + 2) := h0
    match q, hq with
    | 0, _ => simpa using k0
    | 1, _ => exact ⟨show 0 ≤ S 6 (3 * i + 1) by omega, k1.2⟩
def onTF (S : mS) (i : Int) : Bool := decide (begF S i (lastF S i) + S 4 i + S 1 (S 6 (3 * i + (lastF S i : Int))) ≤ S 5 i)
def meetF (a n p b m q : Int) : Bool := decide ((b - a) % (if p < q then p else q) < n) || decide ((a - b) % (if p < q then p else q) < m)
def smXY (S : mS) (i j : Int) (x y : Nat) : Bool := decide (0 ≤ S 6 (3 * i + (x : Int))) && decide (S 6 (3 * i + (x : Int)) = S 6 (3 * j + (y : Int))) && meetF (S 14 i + begF S i x) (S 4 i + 1) (S 3 i) (S 14 j + begF S j y) (S 4 j + 1) (S 3 j)
def smF (S : mS) (i j : Int) : Bool := anyN 3 fun x => anyN 3 fun y => smXY S i j x y
def goodF (S : mS) (i : Nat) : Bool := onTF S i && allN i fun j => !smF S i j
/-- a stream of a schedule: its row p, its links from q on -/
def mSi (S : mS) (p q : Int) : Prop := (S 8 p = 8 ∨ S 8 p = 16 ∨ S 8 p = 32) ∧ (1 ≤ S 9 p ∧ S 9 p ≤ 4) ∧ (0 ≤ S 10 p ∧ S 10 p < S 8 p) ∧ (0 ≤ S 11 q ∧ S 11 q < 6) ∧ (-1 ≤ S 11 (q + 1) ∧ S 11 (q + 1) < 6) ∧ (-1 ≤ S 11 (q + 2) ∧ S 11 (q + 2) < 6) ∧ (S 11 (q + 1) = -1 → S 11 (q + 2) = -1) ∧ (0 ≤ S 12 q ∧ S 12 q ≤ 9) ∧ (0 ≤ S 12 (q + 1) ∧ S 12 (q + 1) ≤ 9) ∧ (0 ≤ S 12 (q + 2) ∧ S 12 (q + 2) ≤ 9)
def mSch (S : mS) (k : Int) : Prop := (-1 ≤ S 7 k ∧ S 7 k ≤ 5) ∧ ∀ i, 0 ≤ i → i < S 7 k → mSi S (5 * k + i) (15 * k + 3 * i)
/-- in a schedule -/
def binF (S : mS) (p q : Int) : Nat → Int
  | 0 => 0
  | j + 1 => binF S p q j + S 9 p + S 12 (q + (j : Int)) + 2
theorem binF_r {S : mS} {p q : Int} (h : mSi S p q) : ∀ (j : Nat), j ≤ 3 → 0 ≤ binF S p q j ∧ binF S p q j ≤ 15 * (j : Int) := by
  obtain ⟨-, h9, -, -, -, -, -, a0, a1, a2⟩ := h
  intro j hj
  have e0 : S 12 (q + ((0 : Nat) : Int)) = S 12 q := by congr 1; exact Int.add_zero q
  match j, hj with
  | 0, _ => exact ⟨Int.le_refl _, Int.le_refl _⟩
  | 1, _ => show 0 ≤ 0 + S 9 p + S 12 (q + ((0 : Nat) : Int)) + 2 ∧ 0 + S 9 p + S 12 (q + ((0 : Nat) : Int)) + 2 ≤ 15 * ((1 : Nat) : Int); omega
  | 2, _ => show 0 ≤ 0 + S 9 p + S 12 (q + ((0 : Nat) : Int)) + 2 + S 9 p + S 12 (q + 1) + 2 ∧ 0 + S 9 p + S 12 (q + ((0 : Nat) : Int)) + 2 + S 9 p + S 12 (q + 1) + 2 ≤ 15 * ((2 : Nat) : Int); omega
  | 3, _ => show 0 ≤ 0 + S 9 p + S 12 (q + ((0 : Nat) : Int)) + 2 + S 9 p + S 12 (q + 1) + 2 + S 9 p + S 12 (q + 2) + 2 ∧ 0 + S 9 p + S 12 (q + ((0 : Nat) : Int)) + 2 + S 9 p + S 12 (q + 1) + 2 + S 9 p + S 12 (q + 2) + 2 ≤ 15 * ((3 : Nat) : Int); omega
def fstN : Nat → (Nat → Bool) → Int
  | 0, _ => -1
  | n + 1, f => if 0 ≤ fstN n f then fstN n f else if f n = true then (n : Int) else -1
theorem fstN_none {f : Nat → Bool} : ∀ {n : Nat}, (∀ k, k < n → f k = false) → fstN n f = -1
  | 0, _ => rfl
  | n + 1, h => by
    have h1 := fstN_none (n := n) (fun k hk => h k (Nat.lt_succ_of_lt hk))
    have h2 := h n (Nat.lt_succ_self n)
    show (if 0 ≤ fstN n f then fstN n f else if f n = true then (n : Int) else -1) = -1
    rw [h1, h2]
    rfl
theorem fstN_hit {f : Nat → Bool} {m : Nat} (h0 : ∀ k, k < m → f k = false) (h1 : f m = true) : ∀ {n : Nat}, m < n → fstN n f = (m : Int)
  | n + 1, h => by
    show (if 0 ≤ fstN n f then fstN n f else if f n = true then (n : Int) else -1) = (m : Int)
    rcases Nat.lt_succ_iff_lt_or_eq.mp h with q | q
    · rw [fstN_hit h0 h1 q, if_pos (by omega)]
    · subst q
      rw [fstN_none h0, if_neg (by omega), if_pos h1]
theorem fstN_r {f : Nat → Bool} : ∀ {n : Nat}, -1 ≤ fstN n f ∧ fstN n f < (n : Int)
  | 0 => ⟨Int.le_refl _, show (-1 : Int) < 0 by decide⟩
  | n + 1 => by
    have h := fstN_r (f := f) (n := n)
    show -1 ≤ (if 0 ≤ fstN n f then fstN n f else if f n = true then (n : Int) else -1) ∧ (if 0 ≤ fstN n f then fstN n f else if f n = true then (n : Int) else -1) < ((n + 1 : Nat) : Int)
    split
    · omega
    · split <;> omega
def spAt (S : mS) (p q l t : Int) (j : Nat) : Bool := decide (S 11 (q + (j : Int)) = l) && decide ((t - (S 10 p + binF S p q j - 1)) % S 8 p ≤ S 9 p)
def spI (S : mS) (k l t : Int) (i : Nat) : Bool := anyN 3 (spAt S (5 * k + (i : Int)) (15 * k + 3 * (i : Int)) l t)
/-- whose span: the first stream of the schedule k in whose span tick t of link l is, else -1 -/
def spF (S : mS) (k l t : Int) : Int := fstN (S 7 k).toNat (spI S k l t)
theorem anyN_0 {n : Nat} {f : Nat → Bool} (h : ∀ k, k < n → f k = false) : anyN n f = false := by
  cases hb : anyN n f with
  | false => rfl
  | true =>
    obtain ⟨k, h1, h2⟩ := anyN_iff.mp hb
    rw [h k h1] at h2
    cases h2
/-- the last hop of a stream in force -/
def laF (S : mS) (q : Int) : Nat := if 0 ≤ S 11 (q + 2) then 2 else if 0 ≤ S 11 (q + 1) then 1 else 0
theorem laF_le (S : mS) (q : Int) : laF S q ≤ 2 := by unfold laF; split <;> (try split) <;> omega
/-- a frame f: when it begins on hop j, when it is through it and its delay -/
def begO (S : mS) (f : Int) (j : Nat) : Int := S 25 f + binF S (10 + S 24 f) (30 + 3 * S 24 f) j
def thrO (S : mS) (f : Int) (j : Nat) : Int := begO S f j + S 9 (10 + S 24 f) + S 12 (30 + 3 * S 24 f + (j : Int))
abbrev lnkO (S : mS) (f : Int) (j : Nat) : Int := S 11 (30 + 3 * S 24 f + (j : Int))

/-- the frames that are on their way: of streams in force, begun by now -/
def mFly (S : mS) : Prop := (0 ≤ S 23 0 ∧ S 23 0 ≤ 64) ∧ ∀ f, 0 ≤ f → f < S 23 0 → (0 ≤ S 24 f ∧ S 24 f < S 7 2) ∧ (0 ≤ S 25 f ∧ S 25 f ≤ 1000000)
/-- the mute of a waiting frame's search: no tick of n is reserved on link l from now -/
def onJ (S : mS) (l f : Int) (j : Nat) : Bool := decide (lnkO S f j = l) && decide (begO S f j < S 15 0) && decide (S 15 0 < begO S f j + S 9 (10 + S 24 f))
def onFr (S : mS) (l : Int) (f : Nat) : Bool := anyN (laF S (30 + 3 * S 24 (f : Int)) + 1) (onJ S l f)
def onF (S : mS) (l : Int) : Int := if 0 ≤ fstN (S 23 0).toNat (onFr S l) then S 24 (fstN (S 23 0).toNat (onFr S l)) else if 0 < S 29 l then 5 else -1
def isTk (S : mS) (i : Int) : Bool := decide (0 ≤ i ∧ i < S 7 2)
theorem mSi_path {S : mS} {p q : Int} (h : mSi S p q) {j : Nat} (hj : j ≤ laF S q) : 0 ≤ S 11 (q + (j : Int)) ∧ S 11 (q + (j : Int)) < 6 := by
  obtain ⟨-, -, -, h0, h1, h2, h3, -⟩ := h
  unfold laF at hj
  split at hj
  · match j, hj with
    | 0, _ => simpa using h0
    | 1, _ => exact ⟨show 0 ≤ S 11 (q + 1) by omega, h1.2⟩
    | 2, _ => exact ⟨show 0 ≤ S 11 (q + 2) by omega, h2.2⟩
  · split at hj
    · match j, hj with
      | 0, _ => simpa using h0
      | 1, _ => exact ⟨show 0 ≤ S 11 (q + 1) by omega, h1.2⟩
    · match j, hj with
      | 0, _ => simpa using h0
/-- a frame that is on its way, as the rows of the table have it -/
def mFm (S : mS) (f : Int) : Prop := (0 ≤ f ∧ f < 64) ∧ (0 ≤ S 24 f ∧ S 24 f < 5) ∧ (0 ≤ S 25 f ∧ S 25 f ≤ 1000000) ∧ mSi S (10 + S 24 f) (30 + 3 * S 24 f)
def mTm (S : mS) : Prop := 0 ≤ S 15 0 ∧ S 15 0 ≤ 1000000
theorem begO_r {S : mS} {f : Int} (h : mFm S f) {j : Nat} (hj : j ≤ 3) : 0 ≤ begO S f j ∧ begO S f j ≤ 1000045 := by
  have h1 := binF_r h.2.2.2 j hj
  have h2 := h.2.2.1
  unfold begO
  omega
theorem thrO_r {S : mS} {f : Int} (h : mFm S f) {j : Nat} (hj : j ≤ 2) : 0 ≤ thrO S f j ∧ thrO S f j ≤ 1000100 := by
  have h1 := begO_r h (j := j) (by omega)
  obtain ⟨-, -, -, -, h9, -, -, -, -, -, a0, a1, a2⟩ := h
  have a : 0 ≤ S 12 (30 + 3 * S 24 f + (j : Int)) ∧ S 12 (30 + 3 * S 24 f + (j : Int)) ≤ 9 := by
    rcases (show j = 0 ∨ j = 1 ∨ j = 2 by omega) with rfl | rfl | rfl
    · simpa using a0
    · exact a1
    · exact a2
  unfold thrO
  omega
def quietF (S : mS) : Bool := decide (S 23 0 = 0) && allN 6 fun l => decide (S 29 (l : Int) = 0)
def lostJ (S : mS) (f : Int) (j : Nat) : Bool := decide (begO S f j = S 15 0) && decide (S 26 (lnkO S f j) ≠ 0)
def hitJ (S : mS) (f l : Int) (j : Nat) : Bool := decide (lnkO S f j = l) && decide (begO S f j < S 15 0) && decide (S 15 0 < thrO S f j)
def lostF (S : mS) (f : Int) : Bool := anyN (laF S (30 + 3 * S 24 f) + 1) (lostJ S f)
def hitF (S : mS) (f l : Int) : Bool := anyN (laF S (30 + 3 * S 24 f) + 1) (hitJ S f l)
def freeK (S : mS) (l : Int) (k : Nat) : Bool := decide (spF S 2 l (S 15 0 + (k : Int)) < 0)
def freeF (S : mS) (l : Int) (n : Nat) : Bool := decide (S 7 2 < 0) || allN n (freeK S l)
