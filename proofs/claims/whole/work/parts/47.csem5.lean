/-! new objects beside the class's 36 cells -/
theorem iI_toI {x : Int32} : iI x.toInt = x := Int32.ofInt_toInt x
def fI (f : Nat → Int32) : Int → Int := fun j => (f j.toNat).toInt
theorem fI_ok {f : Nat → Int32} : (fun j : Nat => iI (fI f (j : Int))) = f := funext fun j => by
  unfold fI
  rw [Int.toNat_natCast, iI_toI]
theorem cat.no {dA : Nat → ClassId} {cd : Nat → Nat} {σ : hS} {C : mS} {R : cR} (h : cat dA cd σ C R) {q : Nat} (hq : σ q = none) : ∀ k, k < 36 → q ≠ cd k := fun k hk e => by
  have := h.1 k hk
  rw [← e, hq] at this
  cases this
theorem cat.ne {dA : Nat → ClassId} {cd : Nat → Nat} {σ σ' : hS} {C : mS} {R : cR} (h : cat dA cd σ C R) (hs : ∀ k, k < 36 → σ' (cd k) = σ (cd k)) : cat dA cd σ' C R := ⟨fun k hk => (hs k hk).trans (h.1 k hk), h.2⟩
theorem cFr.no {dA : Nat → ClassId} {cd : Nat → Nat} {σ0 σ : hS} {C : mS} {R : cR} (h : cat dA cd σ C R) (hF : cFr cd σ0 σ) {q : Nat} (hq : σ q = none) : σ0 q = none := by
  cases h0 : σ0 q with
  | none => rfl
  | some e =>
    have := hF q (by rw [h0]; exact fun q => nomatch q) (h.no hq)
    rw [hq, h0] at this
    cases this
theorem cFr.mk2 {cd : Nat → Nat} {σ0 σ σ9 : hS} {q4 pq : Nat} {e : va_E} (hF : cFr cd σ0 σ) (hz4 : σ0 q4 = none) (hzp : σ0 pq = none) (h92 : ∀ a, a ≠ q4 → σ9 a = hup σ pq e a) : cFr cd σ0 σ9 := fun x h1 h2 => by
  rw [h92 x (fun z => h1 (by rw [z]; exact hz4)), hup_n (fun z => h1 (by rw [z]; exact hzp))]
  exact hF x h1 h2
theorem hld1 {σ σ9 : hS} {q : Nat} {e : va_E} (h : hld σ [(q, e)] σ9) : σ9 q = some e ∧ ∀ a, a ≠ q → σ9 a = σ a := ⟨h.1 0 (q, e) rfl, fun a ha => h.2.2.1 a (fun i p hp => by
  match i, hp with
  | 0, hp => cases hp; exact ha
  | i + 1, hp => simp at hp)⟩
theorem hld.old {σ0 σ : hS} {a x : Nat} {e0 e : va_E} {ws : List (Nat × va_E)} (h : hld σ0 ((a, e0) :: ws) σ) (hx : σ0 x = some e) (hn : x ≠ a) : σ x = some e := by
  rw [h.2.2.1 x (fun i p hp => ?_), hx]
  match i, hp with
  | 0, hp => cases hp; exact hn
  | i + 1, hp =>
    intro q
    have := h.2.2.2 (i + 1) p (by omega) hp
    rw [← q, hx] at this
    cases this
/-- a stream as it was added -/
def isST (dA : Nat → ClassId) (cd : Nat → Nat) (σ : hS) (sr : Nat) (p s d L : Int) (P : Int → Int) : Prop := ∃ pr : Nat, pl cd σ sr (.inr (4, [.int (iI p), .int (iI s), .int (iI d), .ref pr])) ∧ pl cd σ pr (.inl (dA 0, L.toNat, .inl (fun j => iI (P (j : Int)))))
theorem isST.fr {dA : Nat → ClassId} {cd : Nat → Nat} {σ σ' : hS} {sr : Nat} {p s d L : Int} {P : Int → Int} (h : isST dA cd σ sr p s d L P) (hF : cFr cd σ σ') : isST dA cd σ' sr p s d L P := h.imp fun pr q => ⟨q.1.fr hF, q.2.fr hF⟩
def ptL (b c : Int) : Int := if b = -1 then 1 else if c = -1 then 2 else 3
def ptP (a b c : Int) (j : Int) : Int := if j = 0 then a else if j = 1 then b else c
theorem ptL_r (b c : Int) : 1 ≤ ptL b c ∧ ptL b c ≤ 3 := by unfold ptL; split <;> (try split) <;> omega
def thSmn (n p s d a b c : Int) : Int := if ¬ ((0 ≤ a ∧ a < 6) ∧ (b = -1 ∨ (0 ≤ b ∧ b < 6)) ∧ (c = -1 ∨ (0 ≤ c ∧ c < 6))) then 1 else if ¬ ((a ≠ b ∧ a ≠ c ∧ (b ≠ c ∨ b = -1)) ∧ (b ≠ -1 ∨ c = -1) ∧ (p = 8 ∨ p = 16 ∨ p = 32) ∧ (0 < s ∧ s < 5) ∧ (0 < d ∧ d < 61)) then 2 else if n = 5 then 3 else 0
theorem ptB_iff {a b c : Int} (h : (0 ≤ a ∧ a < 6) ∧ (b = -1 ∨ (0 ≤ b ∧ b < 6)) ∧ (c = -1 ∨ (0 ≤ c ∧ c < 6))) : ptB a b c = true ↔ (a ≠ b ∧ a ≠ c ∧ (b ≠ c ∨ b = -1)) ∧ (b ≠ -1 ∨ c = -1) := by
  unfold ptB
  split
  · rw [decide_eq_true_eq]; omega
  · rw [decide_eq_true_eq]; omega
/-- when a frame that begins at 0 begins on hop j -/
def pbg (s : Int) (pt dl : Int → Int) : Nat → Int
  | 0 => 0
  | j + 1 => pbg s pt dl j + s + dl (pt (j : Int)) + 2
theorem pbg_r {s : Int} {pt dl : Int → Int} (hs : 1 ≤ s ∧ s ≤ 4) : ∀ (j : Nat), (∀ i : Nat, i < j → 0 ≤ dl (pt (i : Int)) ∧ dl (pt (i : Int)) ≤ 9) → 0 ≤ pbg s pt dl j ∧ pbg s pt dl j ≤ 15 * (j : Int)
  | 0, _ => ⟨Int.le_refl _, Int.le_refl _⟩
  | j + 1, h => by
    have h1 := pbg_r hs j (fun i hi => h i (Nat.lt_succ_of_lt hi))
    have h2 := h j (Nat.lt_succ_self j)
    show 0 ≤ pbg s pt dl j + s + dl (pt (j : Int)) + 2 ∧ pbg s pt dl j + s + dl (pt (j : Int)) + 2 ≤ 15 * ((j + 1 : Nat) : Int)
    omega
/-- what a planned stream holds -/
def PSok (PP : mS) (p s d L : Int) (pt dl : Int → Int) : Prop := PP 0 0 = p ∧ PP 1 0 = s ∧ PP 2 0 = d ∧ PP 8 0 = L ∧ ∀ j : Nat, (j : Int) < L → PP 3 (j : Int) = pt (j : Int) ∧ PP 4 (j : Int) = pbg s pt dl j ∧ PP 5 (j : Int) = pbg s pt dl j + s + dl (pt (j : Int)) ∧ iI (PP 6 (j : Int)) = sfF (pbg s pt dl j) p s
def mkP (p s d st L : Int) (f3 f4 f5 f6 : Int → Int) : mS := fun k e => match k with
  | 0 => p
  | 1 => s
  | 2 => d
  | 3 => f3 e
  | 4 => f4 e
  | 5 => f5 e
  | 6 => f6 e
  | 7 => st
  | _ => L
/-- a try of the search -/
def itk (C P : mS) (m : Nat) (off : Int) : Bool := anyN (P 8 0).toNat fun h => decide (¬ (iI (C (6 + m) (P 3 (h : Int))) &&& spW (P 6 (h : Int)) off = 0))
def fitB (C P : mS) (m : Nat) : Bool := !(decide (P 2 0 < latP P) || itk C P m (C 4 (m : Int)))
def fit0 (C : mS) (m : Nat) : mS := mw (mw C 4 (m : Int) (C 4 (m : Int) + 1)) 3 0 (C 3 0 + 1)
def rowC (C : mS) (m : Nat) : mS := fun k e => if k = 6 + (m + 1) ∧ 0 ≤ e ∧ e < 6 then C (6 + m) e else C k e
def fit1 (m : Nat) (P : mS) (off : Int) (T : mS) (h : Nat) : mS := mw T (6 + (m + 1)) (P 3 (h : Int)) (iI (T (6 + (m + 1)) (P 3 (h : Int))) ||| spW (P 6 (h : Int)) off).toInt
def fitC (C P : mS) (m : Nat) : mS := if fitB C P m = true then itN (P 8 0).toNat (fit1 m P (C 4 (m : Int))) (rowC (fit0 C m) m) else fit0 C m
def fitP (C P : mS) (m : Nat) : mS := if fitB C P m = true then mw P 7 0 (C 4 (m : Int)) else P
/-- one of the planned streams changed: which start it has -/
def psFr (cd : Nat → Nat) (a : Nat) (σ σ' : hS) : Prop := ∀ q, σ q ≠ none → q ≠ a → (∀ k, k < 36 → q ≠ cd k) → σ' q = σ q
theorem psFr.rf {cd : Nat → Nat} {a : Nat} {σ : hS} : psFr cd a σ σ := fun _ _ _ _ => rfl
theorem psFr.tr {cd : Nat → Nat} {a : Nat} {σ σ1 σ2 : hS} (h1 : psFr cd a σ σ1) (h2 : psFr cd a σ1 σ2) : psFr cd a σ σ2 := fun q g1 g2 g3 => (h2 q (by rw [h1 q g1 g2 g3]; exact g1) g2 g3).trans (h1 q g1 g2 g3)
theorem psFr.of {cd : Nat → Nat} {a : Nat} {σ σ1 : hS} (h : cFr cd σ σ1) : psFr cd a σ σ1 := fun q g1 _ g3 => h q g1 g3
theorem isPS.ps {dA : Nat → ClassId} {cd : Nat → Nat} {σ σ' : hS} {a a' : Nat} {P : mS} (h : isPS dA cd σ a' P) (hne : a' ≠ a) {e : Nat × List Value} (ha : σ a = some (.inr e)) (hF : psFr cd a σ σ') : isPS dA cd σ' a' P := by
  obtain ⟨pa, ba, ea, sa, h0, h1, h2, h3, h4⟩ := h
  have mv : ∀ {x : Nat} {e : va_E}, pl cd σ x e → x ≠ a → pl cd σ' x e := fun {x e} q hx => ⟨(hF x (by rw [q.1]; exact fun z => nomatch z) hx q.2).trans q.1, q.2⟩
  have nl : ∀ {x : Nat} {e1 : ClassId × vp_A}, pl cd σ x (.inl e1) → x ≠ a := fun {x e1} q z => by
    have := q.1
    rw [z, ha] at this
    cases this
  exact ⟨pa, ba, ea, sa, mv h0 hne, mv h1 (nl h1), mv h2 (nl h2), mv h3 (nl h3), mv h4 (nl h4)⟩
section CNEW
variable {l0 : Launch} {Γ : gC} {cc : ByteArray} {own : String} {nL : Nat} {R0 : Room} {σ σ0 : hS} {kc ks pc idx : Nat} {ls : gLs} {st : List Value} {cd : Nat → Nat} {C : mS} {R : cR}
theorem cat.up {dA : Nat → ClassId} (h : cat dA cd σ C R) {q : Nat} {e : va_E} (hq : σ q = none) : cat dA cd (hup σ q e) C R := h.ne (fun k hk => hup_n (fun z => h.no hq k hk z.symm))
theorem c_new {idx ci : Nat} {r : vw_C} {fs : List Value} (cx : CX l0 Γ cc own nL R0) (hc : cat (gdA Γ) cd σ C R) (hF : cFr cd σ0 σ) (hr : gcl[ci]? = some r) (hw : Cond.classLink own idx r.1 ∈ TB) (hi : Cond.instantiable r.1 r.2.2 ∈ TB) (hn : Cond.initialized r.1 ∈ TB) (hfs : ∀ j, j < r.2.2 → defaultValue (gty ci j) = vp_V fs j) (hcc : kc + 1 ≤ R0.cells) (hs : ks + r.2.2 ≤ R0.slots) (d : decode cc pc = .ok (.new idx, 3)) (kk : ∀ (q : Nat) (σ' : hS), σ q = none → σ0 q = none → σ' = hup σ q (.inr (ci, fs)) → cat (gdA Γ) cd σ' C R → cFr cd σ0 σ' → pl cd σ' q (.inr (ci, fs)) → G Γ σ' (kc + 1) (ks + r.2.2) (pc + 3) ls (.ref q :: st)) : G Γ σ kc ks pc ls st :=
  g_new cx hr hw hi hn hfs hcc hs d (fun q hq => kk q _ hq (cFr.no hc hF hq) rfl (hc.up hq) (fun a h1 h2 => by
    rw [hup_n (fun z => h1 (by rw [z]; exact cFr.no hc hF hq))]
    exact hF a h1 h2) ⟨hup_s _ _ _, hc.no hq⟩)
/-- a stream into the row of those added -/
theorem c_addS {i v : Nat} {vs : List Value} (cx : CX l0 Γ cc own nL R0) (hc : cat (gdA Γ) cd σ C R) (hF : cFr cd σ0 σ) (hv : σ v = some (.inr (4, vs))) (hi : i < 5) (d : decode cc pc = .ok (.aastore, 1)) (kk : ∀ σ', cat (gdA Γ) cd σ' C (rwr R 2 (i : Int) (some v)) → cFr cd σ0 σ' → (∀ q, (∀ k, k < 36 → q ≠ cd k) → σ' q = σ q) → G Γ σ' kc ks (pc + 1) ls st) : G Γ σ kc ks pc ls (.ref v :: .int (iI (i : Int)) :: .ref (cd 2) :: st) := by
  refine g_aast cx hc.add hv rfl rfl (iI_in (by omega) (by omega)) d ?_
  rw [iI_cl (by omega), Int.toNat_natCast]
  have e : va_up (fun j : Nat => R 2 (j : Int)) i (some v) = fun j : Nat => rwr R 2 (i : Int) (some v) 2 (j : Int) := funext fun j => by
    unfold va_up rwr
    by_cases h : j = i
    · rw [if_pos h, if_pos ⟨rfl, by omega⟩]
    · rw [if_neg h, if_neg (fun q => h (by omega))]
  rw [e]
  obtain ⟨q1, q2⟩ := cat_put (C' := C) (R' := rwr R 2 (i : Int) (some v)) hc (k := 2) (by decide) rfl (fun _ _ => rfl) rwr_ne
  exact kk _ q1 (hF.tr q2) (fun q hq => hup_n (hq 2 (by decide)))
/-- a row over the next one -/
theorem c_copy {m : Nat} (cx : CX l0 Γ cc own nL R0) (hlen : ls.length = nL) (hc : cat (gdA Γ) cd σ C R) (hF : cFr cd σ0 σ) (hm : m < 5) (hw : Cond.methodLink own idx arraycopyName ∈ TB) (hnat : Cond.native arraycopyName ∈ TB) (hst : Cond.static arraycopyName ∈ TB) (hini : Cond.initialized "java/lang/System" ∈ TB) (hf : 1 ≤ R0.frames) (hl : (st.map fun v => v.category).sum + (nativeFrameWords "java/lang/System" "arraycopy" 5 + 11) ≤ R0.locals) (d : decode cc pc = .ok (.invokestatic idx, 3))
    (kk : ∀ σ', cat (gdA Γ) cd σ' (rowC C m) R → cFr cd σ0 σ' → G Γ σ' kc ks (pc + 3) ls st) : G Γ σ kc ks pc ls (.int (iI 6) :: .int (iI 0) :: .ref (cd (6 + (m + 1))) :: .int (iI 0) :: .ref (cd (6 + m)) :: st) := by
  refine g_copy (N := 6) cx hlen hw hnat hst hini (hc.row (i := m) (by omega)) (hc.row (i := m + 1) (by omega)) rfl (by decide) hf hl d ?_
  have e : cpN (fun j : Nat => iI (C (6 + m) (j : Int))) (fun j : Nat => iI (C (6 + (m + 1)) (j : Int))) 6 = fun j : Nat => iI (rowC C m (6 + (m + 1)) (j : Int)) := funext fun j => by
    unfold cpN rowC
    by_cases h : j < 6
    · rw [if_pos h, if_pos ⟨rfl, by omega⟩]
    · rw [if_neg h, if_neg (fun q => h (by omega))]
  rw [e]
  have he : (.inl (gdA Γ 0, 6, .inl (fun j : Nat => iI (rowC C m (6 + (m + 1)) (j : Int)))) : va_E) = cE (gdA Γ) cd (rowC C m) R (6 + (m + 1)) := by
    unfold cE
    rw [cIL_row (by omega), if_pos (by decide)]
  obtain ⟨q1, q2⟩ := cat_put (C' := rowC C m) (R' := R) hc (k := 6 + (m + 1)) (by omega) he (fun k hk => funext fun e => if_neg (fun q => hk q.1)) (fun _ _ => rfl)
  exact kk _ q1 (hF.tr q2)
/-- a planned stream's start -/
theorem c_putP {a : Nat} {P : mS} {v : Int} (cx : CX l0 Γ cc own nL R0) (hc : cat (gdA Γ) cd σ C R) (hp : isPS (gdA Γ) cd σ a P) (hf : gF own idx 0 7) (d : decode cc pc = .ok (.putfield idx, 3)) (kk : ∀ σ', cat (gdA Γ) cd σ' C R → isPS (gdA Γ) cd σ' a (mw P 7 0 v) → psFr cd a σ σ' → G Γ σ' kc ks (pc + 3) ls st) : G Γ σ kc ks pc ls (.int (iI v) :: .ref a :: st) := by
  obtain ⟨pa, ba, ea, sa, h0, h1, h2, h3, h4⟩ := hp
  refine g_putf cx hf rfl h0.1 (show (7 : Nat) < 8 by decide) rfl rfl d ?_
  have nl : ∀ {x : Nat} {e1 : ClassId × vp_A}, pl cd σ x (.inl e1) → pl cd (hup σ a (.inr (0, [.int (iI (P 0 0)), .int (iI (P 1 0)), .int (iI (P 2 0)), .ref pa, .ref ba, .ref ea, .ref sa, .int (iI v)]))) x (.inl e1) := fun {x e1} q => ⟨by
    rw [hup_n (fun z => by
      have := q.1
      rw [z, h0.1] at this
      cases this)]
    exact q.1, q.2⟩
  exact kk _ (hc.ne (fun k hk => hup_n (fun z => h0.2 k hk z.symm))) ⟨pa, ba, ea, sa, ⟨hup_s _ _ _, h0.2⟩, nl h1, nl h2, nl h3, nl h4⟩ (fun q _ h2 _ => hup_n h2)
end CNEW
theorem itk_0 {C P : mS} {m : Nat} {off : Int} : itk (fit0 C m) P m off = itk C P m off := by
  have e : fit0 C m (6 + m) = C (6 + m) := by unfold fit0; rw [mw_ne (6 + m) (by omega), mw_ne (6 + m) (by omega)]
  unfold itk
  rw [e]
def psF (p s : Int) (pt dl : Int → Int) (f4 f5 f6 : Nat → Int32) (j : Nat) : Prop := ∀ i : Nat, i < j → f4 i = iI (pbg s pt dl i) ∧ f5 i = iI (pbg s pt dl i + s + dl (pt (i : Int))) ∧ f6 i = sfF (pbg s pt dl i) p s
theorem upd_at {f : Nat → Int32} {j : Nat} {x : Int32} : upd f j x j = x := if_pos rfl
theorem psF_next {p s : Int} {pt dl : Int → Int} {f4 f5 f6 : Nat → Int32} {j : Nat} (h : psF p s pt dl f4 f5 f6 j) : psF p s pt dl (upd f4 j (iI (pbg s pt dl j))) (upd f5 j (iI (pbg s pt dl j + s + dl (pt (j : Int))))) (upd f6 j (sfF (pbg s pt dl j) p s)) (j + 1) := fun i hi => by
  rcases Nat.lt_succ_iff_lt_or_eq.mp hi with q | rfl
  · have hne : ¬ i = j := by omega
    show (if i = j then _ else _) = _ ∧ (if i = j then _ else _) = _ ∧ (if i = j then _ else _) = _
    rw [if_neg hne, if_neg hne, if_neg hne]
    exact h i q
  · exact ⟨upd_at, upd_at, upd_at⟩
theorem psF_ok {dA : Nat → ClassId} {cd : Nat → Nat} {σ0 σ : hS} {C : mS} {R : cR} {a pr q1 q2 q3 : Nat} {p s d L : Int} {pt dl : Int → Int} {f4 f5 f6 : Nat → Int32} {e0 : va_E} (hc : cat dA cd σ0 C R) (h0 : σ0 a = some e0) (ha : ∀ k, k < 36 → a ≠ cd k) (hpr : pl cd σ0 pr (.inl (dA 0, L.toNat, .inl (fun j => iI (pt (j : Int)))))) (hpa : pr ≠ a)
    (hd : hld σ0 [(a, .inr (0, [.int (iI p), .int (iI s), .int (iI d), .ref pr, .ref q1, .ref q2, .ref q3, .int (iI 0)])), (q1, .inl (dA 0, L.toNat, .inl f4)), (q2, .inl (dA 0, L.toNat, .inl f5)), (q3, .inl (dA 0, L.toNat, .inl f6))] σ) (hf : psF p s pt dl f4 f5 f6 L.toNat) (hr : ∀ i : Nat, (i : Int) < L → -2147483648 ≤ pbg s pt dl i ∧ pbg s pt dl i + s + dl (pt (i : Int)) ≤ 2147483647 ∧ pbg s pt dl i ≤ 2147483647 ∧ -2147483648 ≤ pbg s pt dl i + s + dl (pt (i : Int))) :
    cat dA cd σ C R ∧ psFr cd a σ0 σ ∧ ∃ PP : mS, isPS dA cd σ a PP ∧ PSok PP p s d L pt dl ∧ PP 7 0 = 0 := by
  have hfr : ∀ x, σ0 x ≠ none → x ≠ a → σ x = σ0 x := fun x h1 h2 => by
    cases hx : σ0 x with
    | none => exact absurd hx h1
    | some e => exact hd.old hx h2
  have hn : ∀ i (q : Nat × va_E), 0 < i → ([(a, .inr (0, [.int (iI p), .int (iI s), .int (iI d), .ref pr, .ref q1, .ref q2, .ref q3, .int (iI 0)])), (q1, .inl (dA 0, L.toNat, .inl f4)), (q2, .inl (dA 0, L.toNat, .inl f5)), (q3, .inl (dA 0, L.toNat, .inl f6))] : List (Nat × va_E))[i]? = some q → pl cd σ q.1 q.2 := fun i q hi hq => ⟨hd.1 i q hq, hc.no (hd.2.2.2 i q hi hq)⟩
  have g4 : (fun j : Nat => iI (fI f4 (j : Int))) = f4 := fI_ok
  have g5 : (fun j : Nat => iI (fI f5 (j : Int))) = f5 := fI_ok
  have g6 : (fun j : Nat => iI (fI f6 (j : Int))) = f6 := fI_ok
  refine ⟨hc.ne (fun k hk => hfr _ (by rw [hc.1 k hk]; exact fun z => nomatch z) (fun z => ha k hk z.symm)), fun q h1 h2 _ => hfr q h1 h2, mkP p s d 0 L pt (fI f4) (fI f5) (fI f6), ⟨pr, q1, q2, q3, ⟨hd.1 0 _ rfl, ha⟩, ⟨hd.old hpr.1 hpa, hpr.2⟩, ?_, ?_, ?_⟩, ⟨rfl, rfl, rfl, rfl, fun j hj => ⟨rfl, ?_, ?_, ?_⟩⟩, rfl⟩
  · show pl cd σ q1 (.inl (dA 0, L.toNat, .inl (fun j : Nat => iI (fI f4 (j : Int)))))
    rw [g4]; exact hn 1 _ (by decide) rfl
  · show pl cd σ q2 (.inl (dA 0, L.toNat, .inl (fun j : Nat => iI (fI f5 (j : Int)))))
    rw [g5]; exact hn 2 _ (by decide) rfl
  · show pl cd σ q3 (.inl (dA 0, L.toNat, .inl (fun j : Nat => iI (fI f6 (j : Int)))))
    rw [g6]; exact hn 3 _ (by decide) rfl
  · show fI f4 (j : Int) = _
    have := hr j hj
    unfold fI
    rw [Int.toNat_natCast, (hf j (by omega)).1, iI_toInt (by omega)]
  · show fI f5 (j : Int) = _
    have := hr j hj
    unfold fI
    rw [Int.toNat_natCast, (hf j (by omega)).2.1, iI_toInt (by omega)]
  · show iI (fI f6 (j : Int)) = _
    unfold fI
    rw [Int.toNat_natCast, (hf j (by omega)).2.2, iI_toI]
