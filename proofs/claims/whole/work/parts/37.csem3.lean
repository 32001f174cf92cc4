/-! the class's own methods: what they answer and throw, what they do to its table -/
def cQ (dA : Nat → ClassId) (cd : Nat → Nat) (σ0 : hS) (th : Int) (r : Option Value) (C' : mS) (R' : cR) : Option Value → hS → Prop := fun v σ9 => th = 0 ∧ v = r ∧ cat dA cd σ9 C' R' ∧ cFr cd σ0 σ9
def cX3 (σ0 : hS) (th : Int) (E1 E2 E3 : String) : String → hS → Prop := fun E σ9 => ((E = E1 ∧ th = 1) ∨ (E = E2 ∧ th = 2) ∨ (E = E3 ∧ th = 3)) ∧ σ9 = σ0
def thOn (n i : Int) : Int := if n < 0 then 1 else if i < 0 ∨ n ≤ i then 2 else 0
def thGn (n w t : Int) : Int := if ¬ (0 ≤ w ∧ w < 6) then 1 else if t < 0 ∨ 31 < t then 2 else if n < 0 then 3 else 0
def thAn (n : Int) : Int := if n < 0 then 1 else 0
def thKn (n i t : Int) : Int := if ¬ (0 ≤ i ∧ i < n) then 1 else if t < 0 ∨ 7 < t then 2 else 0
def thUn (n i : Int) : Int := if 0 ≤ i ∧ i < n then 0 else 1
def thBn (q w t : Int) : Int := if ¬ (0 ≤ w ∧ w < 6) then 1 else if t < 1 ∨ 8 < t then 2 else if q = 4 then 3 else 0
def thTon (n i u : Int) : Int := if ¬ (0 ≤ i ∧ i < n) ∨ u < 0 ∨ 5 < u then 1 else 0
def toC (C : mS) (i u : Int) : Int := if u = 0 then C (13 + i.toNat) 4 else if u = 1 then C (13 + i.toNat) 5 else if u = 2 then C (13 + i.toNat) 6 else if u = 3 then C (13 + i.toNat) 7 else if u = 4 then C (13 + i.toNat) 8 else if C (13 + i.toNat) 3 = 0 then 0 else 1
theorem tlN_n {n : Int} : tlN n = ((n.toNat : Nat) : Int) := by unfold tlN; split <;> omega
theorem scO.some {dA : Nat → ClassId} {cd : Nat → Nat} {σ : hS} {r : Option Nat} {n : Int} {Q : Nat → mS} (h : scO dA cd σ r n Q) (h0 : 0 ≤ n) : ∃ a, r = some a ∧ (0 ≤ n ∧ n ≤ 5) ∧ isSc dA cd σ a n.toNat Q := by
  rcases h with ⟨-, h⟩ | h
  · omega
  · exact h
theorem scO.nil {dA : Nat → ClassId} {cd : Nat → Nat} {σ : hS} {r : Option Nat} {n : Int} {Q : Nat → mS} (h : scO dA cd σ r n Q) : r = none ↔ n < 0 := by
  rcases h with ⟨rfl, h⟩ | ⟨a, rfl, h, -⟩
  · exact ⟨fun _ => by omega, fun _ => rfl⟩
  · exact ⟨fun q => (nomatch q), fun q => absurd q (by omega)⟩
theorem TkW_k {C T : mS} {i : Nat} (h1 : T (13 + i) = C (13 + i)) (h2 : T (13 + i + 5) = C (13 + i + 5)) (h : TkW C i) : TkW T i := by
  unfold TkW at h ⊢
  rw [h1, h2]
  exact h
theorem PtW_k {C T : mS} {l : Nat} (h1 : T (24 + l) = C (24 + l)) (h : PtW C l) : PtW T l := by
  unfold PtW at h ⊢
  rw [h1]
  exact h
def wio (C : mS) (n : Int) (Q : Nat → mS) (w : Nat) : Int := if 0 ≤ fstN n.toNat (fun i => hfF C i (Q i) (w : Int) (C 0 9)) then fstN n.toNat (fun i => hfF C i (Q i) (w : Int) (C 0 9)) else if 0 < C (24 + w) 3 then 5 else -1
def liC (C : mS) (n : Int) (Q : Nat → mS) (w u : Int) : Int := if u = 0 then C (24 + w.toNat) 1 else if u = 1 then C (24 + w.toNat) 4 else if u = 2 then wio C n Q w.toNat else if C (24 + w.toNat) 0 = 0 then 0 else 1
def stC (C : mS) (n4 n5 n6 u : Int) : Int := if u = 0 then C 0 2 else if u = 1 then n4 else if u = 2 then n6 else n5
/-- rows that a talker's steps leave alone -/
theorem loF_k {C : mS} {i : Nat} {P : mS} {w t : Int} {k : Nat} (h1 : k ≠ 13 + i) (h2 : k ≠ 13 + i + 5) : loF C i P w t k = C k := by
  unfold loF
  split
  · rfl
  · exact (mw_ne k h1).trans ((lo_ok _).2.1 k h1 h2)
theorem mvF_k {C : mS} {i : Nat} {P : mS} {t : Int} {k : Nat} (h1 : k ≠ 13 + i) (h2 : k ≠ 13 + i + 5) : mvF C i P t k = C k := by
  unfold mvF
  exact (mw_ne k h1).trans ((mv_ok _).2.1 k h1 h2)
theorem spk_k {C : mS} {i : Nat} {P : mS} {t : Int} {k : Nat} (h1 : k ≠ 13 + i) (h2 : k ≠ 13 + i + 5) : spk C i P t k = C k := by
  unfold spk
  split
  · split
    · exact (mw_ne k h1).trans (mw_ne k h1)
    · split
      · exact (mw_ne k h1).trans (mw_ne k h2)
      · rfl
  · rfl
theorem saF_k {C : mS} {i : Nat} {k : Nat} (h1 : k ≠ 13 + i) : saF C i k = C k := by
  unfold saF
  exact (mw_ne k h1).trans ((mw_ne k h1).trans ((mw_ne k h1).trans ((mw_ne k h1).trans ((mw_ne k h1).trans ((mw_ne k h1).trans ((mw_ne k h1).trans (mw_ne k h1)))))))
theorem bfF_k {C : mS} {l k : Nat} (h1 : k ≠ 24 + l) (h2 : k ≠ 24 + l + 6) : bfF C l k = C k := by
  unfold bfF
  exact (mw_ne k h1).trans ((bf_at l _ _ k h2).trans (mw_ne k h1))
theorem etF_k {C : mS} {l k : Nat} (h1 : k ≠ 24 + l) : etF C l k = C k := by
  unfold etF
  split
  · split
    · exact (mw_ne k h1).trans (mw_ne k h1)
    · exact mw_ne k h1
  · rfl
theorem itT_k {f : mS → Nat → mS} (hf : ∀ T i k, k ≠ 13 + i → k ≠ 13 + i + 5 → f T i k = T k) (C : mS) (k : Nat) : ∀ j : Nat, (∀ i, i < j → k ≠ 13 + i ∧ k ≠ 13 + i + 5) → itN j f C k = C k
  | 0, _ => rfl
  | j + 1, h => by
    show f (itN j f C) j k = C k
    rw [hf _ _ _ (h j (Nat.lt_succ_self j)).1 (h j (Nat.lt_succ_self j)).2]
    exact itT_k hf C k j (fun i hi => h i (Nat.lt_succ_of_lt hi))
def loA (n : Nat) (Q : Nat → mS) (w t : Int) (C : mS) : mS := itN n (fun T i => loF T i (Q i) w t) C
def laC (C : mS) (n : Int) (Q : Nat → mS) (w : Nat) : mS := mw (loA n.toNat Q (w : Int) (C 0 9) C) (24 + w) 3 0
theorem loA_k {n : Nat} {Q : Nat → mS} {w t : Int} {C : mS} {k : Nat} (h : ∀ i, i < n → k ≠ 13 + i ∧ k ≠ 13 + i + 5) : loA n Q w t C k = C k := itT_k (fun _ _ _ h1 h2 => loF_k h1 h2) C k n h
/-- what the class's walks need of a talker in force -/
def tkH (dA : Nat → ClassId) (cd : Nat → Nat) (σ : hS) (C : mS) (R : cR) (n : Nat) (Q : Nat → mS) : Prop := ∀ i, i < n → TkW C i ∧ PW (Q i) ∧ ∃ ai, R (13 + i) 0 = some ai ∧ isPS dA cd σ ai (Q i)
