/-! what the class's methods do to its table -/
def PtW (C : mS) (l : Nat) : Prop := (C (24 + l) 0 = 0 ∨ C (24 + l) 0 = 1) ∧ (0 ≤ C (24 + l) 1 ∧ C (24 + l) 1 ≤ 4) ∧ (0 ≤ C (24 + l) 3 ∧ C (24 + l) 3 ≤ 8)
def apF (C : mS) (l : Nat) (s : Int) : mS := if C (24 + l) 1 < 4 then mw (mw C (24 + l + 6) (C (24 + l) 1) s) (24 + l) 1 (C (24 + l) 1 + 1) else C
def cbF (C : mS) (l : Nat) : Bool := decide (C (24 + l) 3 = 0) && decide (C (24 + l) 0 = 0) && decide (0 < C (24 + l) 1)
def bf1 (l : Nat) (T : mS) (j : Nat) : mS := mw T (24 + l + 6) (1 + (j : Int) - 1) (T (24 + l + 6) (1 + (j : Int)))
def bfF (C : mS) (l : Nat) : mS := mw (itN (C (24 + l) 1 - 1).toNat (bf1 l) (mw C (24 + l) 3 (C (24 + l + 6) 0))) (24 + l) 1 (C (24 + l) 1 - 1)
def etF (C : mS) (l : Nat) : mS := if 0 < C (24 + l) 3 then (if C (24 + l) 3 - 1 = 0 then mw (mw C (24 + l) 3 (C (24 + l) 3 - 1)) (24 + l) 4 (C (24 + l) 4 + 1) else mw C (24 + l) 3 (C (24 + l) 3 - 1)) else C
/-- a talker: what its walk needs -/
def TkW (C : mS) (i : Nat) : Prop := (C (13 + i) 1 = 0 ∨ C (13 + i) 1 = 1) ∧ (0 ≤ C (13 + i) 2 ∧ C (13 + i) 2 ≤ 7) ∧ (C (13 + i) 3 = 0 ∨ C (13 + i) 3 = 1) ∧ (0 ≤ C (13 + i) 4 ∧ C (13 + i) 4 ≤ 8) ∧ ∀ j, 0 ≤ j → j < C (13 + i) 4 → 0 ≤ C (13 + i + 5) j ∧ C (13 + i + 5) j ≤ 1000000
def saF (C : mS) (i : Nat) : mS := mw (mw (mw (mw (mw (mw (mw (mw C (13 + i) 1 1) (13 + i) 2 0) (13 + i) 3 0) (13 + i) 4 0) (13 + i) 5 0) (13 + i) 6 0) (13 + i) 7 0) (13 + i) 8 (-1)
def begAt (P : mS) (t : Int) : Bool := decide ((t - P 7 0) % P 0 0 = 0)
def spkB (C : mS) (i : Nat) (P : mS) (t : Int) : Bool := decide (C (13 + i) 1 ≠ 0) && decide (0 ≤ t - C (13 + i) 2) && begAt P (t - C (13 + i) 2)
def spkD (C : mS) (i : Nat) : Bool := decide (0 < C (13 + i) 2) || decide (C (13 + i) 3 ≠ 0)
def spk (C : mS) (i : Nat) (P : mS) (t : Int) : mS := if spkB C i P t = true then (if spkD C i = true then mw (mw C (13 + i) 7 (C (13 + i) 7 + 1)) (13 + i) 3 1 else if C (13 + i) 4 < 8 then mw (mw C (13 + i + 5) (C (13 + i) 4) t) (13 + i) 4 (C (13 + i) 4 + 1) else C) else C
/-- a frame of such an age begins on a link that is cut -/
def bocH (C P : mS) (age : Int) (h : Nat) : Bool := decide (P 4 (h : Int) = age) && decide (C (24 + (P 3 (h : Int)).toNat) 0 ≠ 0)
def bocF (C P : mS) (age : Int) : Bool := anyN (P 8 0).toNat (bocH C P age)
abbrev latP (P : mS) : Int := P 5 (P 8 0 - 1)
/-- moveFrames, frame by frame: the table, how many are kept -/
def mv1 (i : Nat) (P : mS) (t : Int) (Tk : mS × Nat) (j : Nat) : mS × Nat :=
  if bocF Tk.1 P (t - Tk.1 (13 + i + 5) (j : Int)) = true then (mw Tk.1 (13 + i) 6 (Tk.1 (13 + i) 6 + 1), Tk.2)
  else if t - Tk.1 (13 + i + 5) (j : Int) = latP P then (mw (mw Tk.1 (13 + i) 5 (Tk.1 (13 + i) 5 + 1)) (13 + i) 8 (t - Tk.1 (13 + i + 5) (j : Int)), Tk.2)
  else (mw Tk.1 (13 + i + 5) (Tk.2 : Int) (Tk.1 (13 + i + 5) (j : Int)), Tk.2 + 1)
def itP : Nat → (mS × Nat → Nat → mS × Nat) → mS × Nat → mS × Nat
  | 0, _, S => S
  | n + 1, f, S => f (itP n f S) n
def mvF (C : mS) (i : Nat) (P : mS) (t : Int) : mS := mw (itP (C (13 + i) 4).toNat (mv1 i P t) (C, 0)).1 (13 + i) 4 ((itP (C (13 + i) 4).toNat (mv1 i P t) (C, 0)).2 : Int)
/-- loseOn -/
def lo1 (i : Nat) (P : mS) (h t : Int) (Tk : mS × Nat) (j : Nat) : mS × Nat :=
  if P 4 h < t - Tk.1 (13 + i + 5) (j : Int) ∧ t - Tk.1 (13 + i + 5) (j : Int) < P 5 h then (mw Tk.1 (13 + i) 6 (Tk.1 (13 + i) 6 + 1), Tk.2)
  else (mw Tk.1 (13 + i + 5) (Tk.2 : Int) (Tk.1 (13 + i + 5) (j : Int)), Tk.2 + 1)
def loF (C : mS) (i : Nat) (P : mS) (w t : Int) : mS := if hopF P w = -1 then C else mw (itP (C (13 + i) 4).toNat (lo1 i P (hopF P w) t) (C, 0)).1 (13 + i) 4 ((itP (C (13 + i) 4).toNat (lo1 i P (hopF P w) t) (C, 0)).2 : Int)
def hfJ (C : mS) (i : Nat) (P : mS) (h t : Int) (j : Nat) : Bool := decide (0 < t - C (13 + i + 5) (j : Int) - P 4 h) && decide (t - C (13 + i + 5) (j : Int) - P 4 h < P 1 0)
def hfF (C : mS) (i : Nat) (P : mS) (w t : Int) : Bool := decide (hopF P w ≠ -1) && anyN (C (13 + i) 4).toNat (hfJ C i P (hopF P w) t)
/-- a schedule: whose span -/
def owI (Q : Nat → mS) (w t : Int) (i : Nat) : Bool := decide (hopF (Q i) w ≠ -1) && hsA (Q i) (hopF (Q i) w) t
def owF (n : Nat) (Q : Nat → mS) (w t : Int) : Int := fstN n (owI Q w t)
def frF (n : Nat) (Q : Nat → mS) (w t : Int) (m : Nat) : Bool := allN m fun k => decide (owF n Q w (t + (k : Int)) = -1)
theorem hopF_r {P : mS} (h : PW P) (w : Int) : -1 ≤ hopF P w ∧ hopF P w < P 8 0 := by
  have := fstN_r (n := (P 8 0).toNat) (f := fun j => decide (P 3 (j : Int) = w))
  have h8 := h.1
  unfold hopF
  omega
theorem bf_at (l : Nat) : ∀ (n : Nat) (S : mS), ∀ k, k ≠ 24 + l + 6 → itN n (bf1 l) S k = S k
  | 0, _, _, _ => rfl
  | n + 1, S, k, h => by
    show bf1 l (itN n (bf1 l) S) n k = S k
    rw [← bf_at l n S k h]
    funext e
    unfold bf1
    rw [mw_k h]
/-- moveFrames, loseOn: what stays -/
def mvI (C : mS) (i : Nat) (Tk : mS × Nat) (j : Nat) : Prop := Tk.2 ≤ j ∧ (∀ k, k ≠ 13 + i → k ≠ 13 + i + 5 → Tk.1 k = C k) ∧ Tk.1 (13 + i) 4 = C (13 + i) 4 ∧ ∀ e, (j : Int) ≤ e → Tk.1 (13 + i + 5) e = C (13 + i + 5) e
theorem mv_ok {C : mS} {i : Nat} {P : mS} {t : Int} : ∀ n : Nat, mvI C i (itP n (mv1 i P t) (C, 0)) n
  | 0 => ⟨Nat.le_refl _, fun _ _ _ => rfl, rfl, fun _ _ => rfl⟩
  | n + 1 => by
    obtain ⟨h1, h2, h3, h4⟩ := mv_ok (C := C) (i := i) (P := P) (t := t) n
    show mvI C i (mv1 i P t (itP n (mv1 i P t) (C, 0)) n) (n + 1)
    generalize itP n (mv1 i P t) (C, 0) = Tk at h1 h2 h3 h4 ⊢
    unfold mv1
    split
    · exact ⟨by show Tk.2 ≤ n + 1; omega, fun k q1 q2 => by rw [← h2 k q1 q2]; exact mw_ne k q1, by show mw Tk.1 (13 + i) 6 _ (13 + i) 4 = _; rw [mw_e (by decide), h3], fun e he => by show mw Tk.1 (13 + i) 6 _ (13 + i + 5) e = _; rw [mw_k (by omega), h4 e (by omega)]⟩
    · split
      · exact ⟨by show Tk.2 ≤ n + 1; omega, fun k q1 q2 => by rw [← h2 k q1 q2]; exact (mw_ne k q1).trans (mw_ne k q1), by show mw (mw Tk.1 (13 + i) 5 _) (13 + i) 8 _ (13 + i) 4 = _; rw [mw_e (by decide), mw_e (by decide), h3], fun e he => by show mw (mw Tk.1 (13 + i) 5 _) (13 + i) 8 _ (13 + i + 5) e = _; rw [mw_k (by omega), mw_k (by omega), h4 e (by omega)]⟩
      · exact ⟨by show Tk.2 + 1 ≤ n + 1; omega, fun k q1 q2 => by rw [← h2 k q1 q2]; exact mw_ne k q2, by show mw Tk.1 (13 + i + 5) _ _ (13 + i) 4 = _; rw [mw_k (by omega), h3], fun e he => by show mw Tk.1 (13 + i + 5) _ _ (13 + i + 5) e = _; rw [mw_e (by omega), h4 e (by omega)]⟩
theorem lo_ok {C : mS} {i : Nat} {P : mS} {h t : Int} : ∀ n : Nat, mvI C i (itP n (lo1 i P h t) (C, 0)) n
  | 0 => ⟨Nat.le_refl _, fun _ _ _ => rfl, rfl, fun _ _ => rfl⟩
  | n + 1 => by
    obtain ⟨h1, h2, h3, h4⟩ := lo_ok (C := C) (i := i) (P := P) (h := h) (t := t) n
    show mvI C i (lo1 i P h t (itP n (lo1 i P h t) (C, 0)) n) (n + 1)
    generalize itP n (lo1 i P h t) (C, 0) = Tk at h1 h2 h3 h4 ⊢
    unfold lo1
    split
    · exact ⟨by show Tk.2 ≤ n + 1; omega, fun k q1 q2 => by rw [← h2 k q1 q2]; exact mw_ne k q1, by show mw Tk.1 (13 + i) 6 _ (13 + i) 4 = _; rw [mw_e (by decide), h3], fun e he => by show mw Tk.1 (13 + i) 6 _ (13 + i + 5) e = _; rw [mw_k (by omega), h4 e (by omega)]⟩
    · exact ⟨by show Tk.2 + 1 ≤ n + 1; omega, fun k q1 q2 => by rw [← h2 k q1 q2]; exact mw_ne k q2, by show mw Tk.1 (13 + i + 5) _ _ (13 + i) 4 = _; rw [mw_k (by omega), h3], fun e he => by show mw Tk.1 (13 + i + 5) _ _ (13 + i + 5) e = _; rw [mw_e (by omega), h4 e (by omega)]⟩
