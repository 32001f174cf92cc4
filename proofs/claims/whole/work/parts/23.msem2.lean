/-! what the reference's methods do to its table -/
def itN : Nat → (mS → Nat → mS) → mS → mS
  | 0, _, S => S
  | n + 1, f, S => f (itN n f S) n
def thD (w t : Int) : Int := if ¬ (0 ≤ w ∧ w < 6) then 1 else if t < 0 ∨ 9 < t then 2 else 0
def delS (S : mS) (w t : Int) : mS := if thD w t = 0 then mw (mw S 0 0 (thD w t)) 1 w t else mw S 0 0 (thD w t)
def thO (S : mS) (i : Int) : Int := if S 7 0 < 0 then 1 else if i < 0 ∨ S 7 0 ≤ i then 2 else 0
def ofR (S : mS) (i : Int) : Int := if thO S i = 0 then S 10 i else 0
def thG (S : mS) (w t : Int) : Int := if ¬ (0 ≤ w ∧ w < 6) then 1 else if t < 0 ∨ 31 < t then 2 else if S 7 0 < 0 then 3 else 0
def gaR (S : mS) (w t : Int) : Int := if thG S w t = 0 then spF S 0 w t else 0
/-- what the words of a schedule look at -/
def sEq (S T : mS) : Prop := ∀ k, 7 ≤ k → k ≤ 12 → S k = T k
theorem sEq_0 {S : mS} {e : Int} : sEq (mw S 0 0 e) S := fun k h1 h2 => funext fun b => mw_k (by omega)
theorem binF_eq {S T : mS} (h : sEq S T) (p q : Int) : ∀ j, binF S p q j = binF T p q j
  | 0 => rfl
  | j + 1 => by
    show binF S p q j + S 9 p + S 12 (q + (j : Int)) + 2 = binF T p q j + T 9 p + T 12 (q + (j : Int)) + 2
    rw [binF_eq h p q j, h 9 (by omega) (by omega), h 12 (by omega) (by omega)]
theorem spAt_eq {S T : mS} (h : sEq S T) (p q l t : Int) (j : Nat) : spAt S p q l t j = spAt T p q l t j := by
  unfold spAt
  rw [binF_eq h, h 11 (by omega) (by omega), h 10 (by omega) (by omega), h 8 (by omega) (by omega), h 9 (by omega) (by omega)]
theorem spF_eq {S T : mS} (h : sEq S T) (k l t : Int) : spF S k l t = spF T k l t := by
  unfold spF
  have e : spI S k l t = spI T k l t := funext fun i => by
    unfold spI
    have e2 : spAt S (5 * k + (i : Int)) (15 * k + 3 * (i : Int)) l t = spAt T (5 * k + (i : Int)) (15 * k + 3 * (i : Int)) l t := funext fun j => spAt_eq h _ _ _ _ j
    rw [e2]
  rw [e, h 7 (by omega) (by omega)]
theorem mSi_eq {S T : mS} (h : sEq S T) {p q : Int} (hs : mSi T p q) : mSi S p q := by
  unfold mSi at hs ⊢
  rw [h 8 (by omega) (by omega), h 9 (by omega) (by omega), h 10 (by omega) (by omega), h 11 (by omega) (by omega), h 12 (by omega) (by omega)]
  exact hs
theorem mSch_eq {S T : mS} (h : sEq S T) {k : Int} (hs : mSch T k) : mSch S k := by
  refine ⟨by rw [h 7 (by omega) (by omega)]; exact hs.1, fun i h1 h2 => mSi_eq h (hs.2 i h1 (by rw [h 7 (by omega) (by omega)] at h2; exact h2))⟩
def thA (S : mS) : Int := if S 7 0 < 0 then 1 else 0
/-- copy: schedule a's rows over b's -/
def cp5 (a b : Int) (T : mS) (i : Nat) : mS := mw (mw (mw T 8 (5 * b + (i : Int)) (T 8 (5 * a + (i : Int)))) 9 (5 * b + (i : Int)) ((mw T 8 (5 * b + (i : Int)) (T 8 (5 * a + (i : Int)))) 9 (5 * a + (i : Int)))) 10 (5 * b + (i : Int)) ((mw (mw T 8 (5 * b + (i : Int)) (T 8 (5 * a + (i : Int)))) 9 (5 * b + (i : Int)) ((mw T 8 (5 * b + (i : Int)) (T 8 (5 * a + (i : Int)))) 9 (5 * a + (i : Int)))) 10 (5 * a + (i : Int)))
def cp15 (a b : Int) (T : mS) (i : Nat) : mS := mw (mw T 11 (15 * b + (i : Int)) (T 11 (15 * a + (i : Int)))) 12 (15 * b + (i : Int)) ((mw T 11 (15 * b + (i : Int)) (T 11 (15 * a + (i : Int)))) 12 (15 * a + (i : Int)))
def copF (S : mS) (a b : Int) : mS := itN 15 (cp15 a b) (itN 5 (cp5 a b) (mw S 7 b (S 7 a)))
def actS (S : mS) : mS := if thA S = 0 then copF (mw S 0 0 (thA S)) 0 1 else mw S 0 0 (thA S)
/-- keep -/
def kpI (T : mS) (i : Nat) : mS := mw (mw (mw T 8 (i : Int) (T 3 (i : Int))) 9 (i : Int) ((mw T 8 (i : Int) (T 3 (i : Int))) 4 (i : Int))) 10 (i : Int) ((mw (mw T 8 (i : Int) (T 3 (i : Int))) 9 (i : Int) ((mw T 8 (i : Int) (T 3 (i : Int))) 4 (i : Int))) 14 (i : Int))
def kpJ (i : Nat) (T : mS) (j : Nat) : mS := mw (mw T 11 (3 * (i : Int) + (j : Int)) (T 6 (3 * (i : Int) + (j : Int)))) 12 (3 * (i : Int) + (j : Int)) (if T 6 (3 * (i : Int) + (j : Int)) < 0 then 0 else (mw T 11 (3 * (i : Int) + (j : Int)) (T 6 (3 * (i : Int) + (j : Int)))) 1 (T 6 (3 * (i : Int) + (j : Int))))
def keepF (S : mS) : mS := itN (S 2 0).toNat (fun T i => itN 3 (kpJ i) (kpI T i)) (mw S 7 0 (S 2 0))
/-- the schedule awaited comes into force -/
def cif1 (T : mS) (i : Nat) : mS := mw (mw (mw (mw (mw (mw (mw T 16 (i : Int) 0) 17 (i : Int) 0) 18 (i : Int) 0) 19 (i : Int) 0) 20 (i : Int) 0) 21 (i : Int) 0) 22 (i : Int) (-1)
def cifF (S : mS) : mS := itN 5 cif1 (mw (copF S 1 2) 7 1 (-1))
/-- a frame out of those on their way -/
def rm1 (f : Int) (T : mS) (k : Nat) : mS := mw (mw T 24 (f + (k : Int)) (T 24 (f + (k : Int) + 1))) 25 (f + (k : Int)) ((mw T 24 (f + (k : Int)) (T 24 (f + (k : Int) + 1))) 25 (f + (k : Int) + 1))
def remF (S : mS) (f : Int) : mS := itN (S 23 0 - 1 - f).toNat (rm1 f) (mw S 23 0 (S 23 0 - 1))
/-- one stream's talker -/
def tkB (T : mS) (i : Nat) : Bool := decide (T 16 (i : Int) = 0) && decide (0 ≤ T 15 0 - T 17 (i : Int)) && decide ((T 15 0 - T 17 (i : Int)).tmod (T 8 (10 + (i : Int))) = T 10 (10 + (i : Int)))
def tkD (T : mS) (i : Nat) : Bool := decide (0 < T 17 (i : Int)) || decide (T 18 (i : Int) ≠ 0)
def tk1 (T : mS) (i : Nat) : mS := if tkB T i = true then (if tkD T i = true then mw (mw T 21 (i : Int) (T 21 (i : Int) + 1)) 18 (i : Int) 1 else mw (mw (mw T 24 (T 23 0) (i : Int)) 25 ((mw T 24 (T 23 0) (i : Int)) 23 0) ((mw T 24 (T 23 0) (i : Int)) 15 0)) 23 0 ((mw (mw T 24 (T 23 0) (i : Int)) 25 ((mw T 24 (T 23 0) (i : Int)) 23 0) ((mw T 24 (T 23 0) (i : Int)) 15 0)) 23 0 + 1)) else T
def tkF (S : mS) : mS := itN (S 7 2).toNat tk1 S
def fl1 : Nat → mS → mS
  | 0, S => S
  | n + 1, S => fl1 n (if lostF S (n : Int) = true then remF (mw S 20 (S 24 (n : Int)) (S 20 (S 24 (n : Int)) + 1)) (n : Int) else S)
def got1 (S : mS) (f : Int) : mS := remF (mw (mw S 19 (S 24 f) (S 19 (S 24 f) + 1)) 22 (S 24 f) ((mw S 19 (S 24 f) (S 19 (S 24 f) + 1)) 15 0 - (mw S 19 (S 24 f) (S 19 (S 24 f) + 1)) 25 f)) f
def fl2 : Nat → mS → Int → mS
  | 0, S, _ => S
  | n + 1, S, f => if f < S 23 0 then (if thrO S f (laF S (30 + 3 * S 24 f)) = S 15 0 then fl2 n (got1 S f) f else fl2 n S (f + 1)) else S
def flyF (S : mS) : mS := fl2 ((fl1 (S 23 0).toNat S) 23 0).toNat (fl1 (S 23 0).toNat S) 0
/-- a link's waiting frames -/
def sv1 (l : Int) (T : mS) (k : Nat) : mS := mw T 28 (4 * l + (k : Int)) (T 28 (4 * l + (k : Int) + 1))
def svA (S : mS) (l : Int) : Bool := decide (S 29 l = 0) && decide (S 26 l = 0) && decide (0 < S 27 l) && freeF S l (S 28 (4 * l)).toNat
def svB (S : mS) (l : Int) : mS := itN (S 27 l - 1).toNat (sv1 l) (mw (mw S 29 l (S 28 (4 * l))) 27 l ((mw S 29 l (S 28 (4 * l))) 27 l - 1))
def svE (S : mS) (l : Int) : mS := if 0 < S 29 l then mw (mw S 29 l (S 29 l - 1)) 30 l (if (mw S 29 l (S 29 l - 1)) 29 l = 0 then (mw S 29 l (S 29 l - 1)) 30 l + 1 else (mw S 29 l (S 29 l - 1)) 30 l) else S
def svF (S : mS) (l : Nat) : mS := svE (if svA S (l : Int) = true then svB S (l : Int) else S) (l : Int)
def tckA (S : mS) : mS := if (decide (0 ≤ S 7 1) && decide ((S 15 0).tmod 32 = 0) && quietF S) = true then cifF S else S
def tckB (S : mS) : mS := if S 7 1 < 0 then tkF S else S
def tckF (S : mS) : mS := mw (itN 6 svF (flyF (tckB (tckA S)))) 15 0 ((itN 6 svF (flyF (tckB (tckA S)))) 15 0 + 1)
def thT (n : Int) : Int := if n < 1 ∨ 200 < n then 1 else 0
def tickS (S : mS) (n : Int) : mS := if thT n = 0 then itN n.toNat (fun T _ => tckF T) (mw S 0 0 (thT n)) else mw S 0 0 (thT n)
def tickR (S : mS) (n : Int) : Int := if thT n = 0 then tickS S n 15 0 else 0
def thK (S : mS) (i t : Int) : Int := if isTk S i = false then 1 else if t < 0 ∨ 7 < t then 2 else 0
def talkS (S : mS) (i on t : Int) : mS := if thK S i t = 0 then mw (mw (mw S 0 0 (thK S i t)) 16 i (if on = 0 then 1 else 0)) 17 i t else mw S 0 0 (thK S i t)
def thU (S : mS) (i : Int) : Int := if isTk S i = true then 0 else 1
def unbB (S : mS) (i : Int) : Bool := decide (thU S i = 0) && decide (S 18 i ≠ 0)
def unbS (S : mS) (i : Int) : mS := if unbB S i = true then mw (mw S 0 0 (thU S i)) 18 i 0 else mw S 0 0 (thU S i)
def thC (w : Int) : Int := if 0 ≤ w ∧ w < 6 then 0 else 1
def cu1 (w : Int) : Nat → mS → mS
  | 0, S => S
  | n + 1, S => cu1 w n (if hitF S (n : Int) w = true then remF (mw S 20 (S 24 (n : Int)) (S 20 (S 24 (n : Int)) + 1)) (n : Int) else S)
def cutX (S : mS) (w on : Int) : mS := if on = 0 then mw S 26 w on else cu1 w (S 23 0).toNat (mw S 26 w on)
def cutY (T : mS) (w on : Int) : mS := mw T 29 w (if on = 0 then T 29 w else 0)
def cutB (S : mS) (w on : Int) : Bool := decide (thC w = 0) && decide (S 26 w ≠ on)
def cutS (S : mS) (w on : Int) : mS := if cutB S w on = true then cutY (cutX (mw S 0 0 (thC w)) w on) w on else mw S 0 0 (thC w)
def thB (S : mS) (w t : Int) : Int := if ¬ (0 ≤ w ∧ w < 6) then 1 else if t < 1 ∨ 8 < t then 2 else if S 27 w = 4 then 3 else 0
def babS (S : mS) (w t : Int) : mS := if thB S w t = 0 then mw (mw (mw S 0 0 (thB S w t)) 28 (4 * w + (mw S 0 0 (thB S w t)) 27 w) t) 27 w ((mw (mw S 0 0 (thB S w t)) 28 (4 * w + (mw S 0 0 (thB S w t)) 27 w) t) 27 w + 1) else mw S 0 0 (thB S w t)
def babR (S : mS) (w t : Int) : Int := if thB S w t = 0 then S 27 w + 1 else 0
def thTo (S : mS) (i u : Int) : Int := if isTk S i = false ∨ u < 0 ∨ 5 < u then 1 else 0
def cntN : Nat → (Nat → Bool) → Int
  | 0, _ => 0
  | n + 1, f => if f n = true then cntN n f + 1 else cntN n f
def onWayF (S : mS) (i : Int) : Int := cntN (S 23 0).toNat fun f => decide (S 24 (f : Int) = i)
def toldR (S : mS) (i u : Int) : Int := if thTo S i u = 0 then (if u = 0 then onWayF S i else if u = 1 then S 19 i else if u = 2 then S 20 i else if u = 3 then S 21 i else if u = 4 then S 22 i else if S 18 i = 0 then 0 else 1) else 0
def thL (w u : Int) : Int := if ¬ (0 ≤ w ∧ w < 6) ∨ u < 0 ∨ 3 < u then 1 else 0
def linkR (S : mS) (w u : Int) : Int := if thL w u = 0 then (if u = 0 then S 27 w else if u = 1 then S 30 w else if u = 2 then onF S w else if S 26 w = 0 then 0 else 1) else 0
def thSt (u : Int) : Int := if u < 0 ∨ 3 < u then 1 else 0
def strR (S : mS) (u : Int) : Int := if thSt u = 0 then (if u = 0 then S 2 0 else if u = 1 then S 7 0 else if u = 2 then S 7 2 else S 7 1) else 0
def thSm (S : mS) (p s d a b c : Int) : Int := if ¬ ((0 ≤ a ∧ a < 6) ∧ (b = -1 ∨ (0 ≤ b ∧ b < 6)) ∧ (c = -1 ∨ (0 ≤ c ∧ c < 6))) then 1 else if ¬ ((a ≠ b ∧ a ≠ c ∧ (b ≠ c ∨ b = -1)) ∧ (b ≠ -1 ∨ c = -1) ∧ (p = 8 ∨ p = 16 ∨ p = 32) ∧ (0 < s ∧ s < 5) ∧ (0 < d ∧ d < 61)) then 2 else if S 2 0 = 5 then 3 else 0
