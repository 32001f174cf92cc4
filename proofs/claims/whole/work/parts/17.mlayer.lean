/-! THE REFERENCE: its one object and its arrays as a table of integers: S k e, field k, place e (an int field: place 0) -/
abbrev mS : Type := Nat → Int → Int
def mFs (ad : Nat → Nat) (S : mS) : List Value := [.int (iI (S 0 0)), .ref (ad 1), .int (iI (S 2 0)), .ref (ad 3), .ref (ad 4), .ref (ad 5), .ref (ad 6), .ref (ad 7), .ref (ad 8), .ref (ad 9), .ref (ad 10), .ref (ad 11), .ref (ad 12), .int (iI (S 13 0)), .ref (ad 14), .int (iI (S 15 0)), .ref (ad 16), .ref (ad 17), .ref (ad 18), .ref (ad 19), .ref (ad 20), .ref (ad 21), .ref (ad 22), .int (iI (S 23 0)), .ref (ad 24), .ref (ad 25), .ref (ad 26), .ref (ad 27), .ref (ad 28), .ref (ad 29), .ref (ad 30)]
def mLen (k : Nat) : Nat := [0, 6, 0, 5, 5, 5, 15, 3, 15, 15, 15, 45, 45, 0, 5, 0, 5, 5, 5, 5, 5, 5, 5, 0, 64, 64, 6, 6, 24, 6, 6].getD k 0
def mT (k : Nat) : Nat := if k = 16 ∨ k = 18 ∨ k = 26 then 1 else 0
/-- place e of field k is v now -/
def mw (S : mS) (k : Nat) (e v : Int) : mS := fun a b => if a = k ∧ b = e then v else S a b
theorem mw_s {S : mS} {k : Nat} {e v : Int} : mw S k e v k e = v := if_pos ⟨rfl, rfl⟩
theorem mw_k {S : mS} {k a : Nat} {e b v : Int} (h : a ≠ k) : mw S k e v a b = S a b := if_neg (fun q => h q.1)
theorem mw_e {S : mS} {k a : Nat} {e b v : Int} (h : b ≠ e) : mw S k e v a b = S a b := if_neg (fun q => h q.2)
def mat (dA : Nat → ClassId) (ad : Nat → Nat) (σ : hS) (h : Nat) (S : mS) : Prop := σ h = some (.inr (7, mFs ad S)) ∧ (∀ k, 0 < mLen k → σ (ad k) = some (.inl (dA (mT k), mLen k, .inl (fun j => iI (S k (j : Int)))))) ∧ (∀ k, 0 < mLen k → ad k ≠ h) ∧ ∀ k k', 0 < mLen k → 0 < mLen k' → ad k = ad k' → k = k'
/-- nothing else changed -/
def mFr (ad : Nat → Nat) (h : Nat) (σ σ' : hS) : Prop := ∀ a, a ≠ h → (∀ k, 0 < mLen k → a ≠ ad k) → σ' a = σ a
theorem mFr.rf {ad : Nat → Nat} {h : Nat} {σ : hS} : mFr ad h σ σ := fun _ _ _ => rfl
theorem mFr.tr {ad : Nat → Nat} {h : Nat} {σ σ1 σ2 : hS} (h1 : mFr ad h σ σ1) (h2 : mFr ad h σ1 σ2) : mFr ad h σ σ2 := fun a q1 q2 => (h2 a q1 q2).trans (h1 a q1 q2)
/-- what a method of the reference does: its answer, the table behind it -/
def mP (dA : Nat → ClassId) (ad : Nat → Nat) (h : Nat) (σ : hS) (r : Option Value) (S : mS) : Option Value → hS → Prop := fun v σ' => v = r ∧ mat dA ad σ' h S ∧ mFr ad h σ σ'
def nX : String → hS → Prop := fun _ _ => False
theorem mat_putA {dA : Nat → ClassId} {ad : Nat → Nat} {σ : hS} {h : Nat} {S : mS} (hm : mat dA ad σ h S) {k : Nat} {e v : Int} (hk : 0 < mLen k) {f : Nat → Int32} (hf : ∀ j : Nat, f j = iI (mw S k e v k (j : Int))) : mat dA ad (hup σ (ad k) (.inl (dA (mT k), mLen k, .inl f))) h (mw S k e v) ∧ mFr ad h σ (hup σ (ad k) (.inl (dA (mT k), mLen k, .inl f))) := by
  obtain ⟨h1, h2, h3, h4⟩ := hm
  refine ⟨⟨?_, fun k' hk' => ?_, h3, h4⟩, fun a q1 q2 => hup_n (q2 k hk)⟩
  · rw [hup_n (Ne.symm (h3 k hk)), h1]
    have : mFs ad (mw S k e v) = mFs ad S := by
      have hne : k ≠ 0 ∧ k ≠ 2 ∧ k ≠ 13 ∧ k ≠ 15 ∧ k ≠ 23 := by
        refine ⟨?_, ?_, ?_, ?_, ?_⟩ <;> (intro q; subst q; exact absurd hk (by decide))
      unfold mFs
      rw [mw_k (Ne.symm hne.1), mw_k (Ne.symm hne.2.1), mw_k (Ne.symm hne.2.2.1), mw_k (Ne.symm hne.2.2.2.1), mw_k (Ne.symm hne.2.2.2.2)]
    rw [this]
  · by_cases hkk : k' = k
    · subst hkk
      rw [hup_s]
      have : f = fun j : Nat => iI (mw S k' e v k' (j : Int)) := funext hf
      rw [this]
    · rw [hup_n (fun q => hkk (h4 k' k hk' hk q)), h2 k' hk']
      have : (fun j : Nat => iI (mw S k e v k' (j : Int))) = fun j : Nat => iI (S k' (j : Int)) := funext fun j => by rw [mw_k hkk]
      rw [this]
theorem mat_putI {dA : Nat → ClassId} {ad : Nat → Nat} {σ : hS} {h : Nat} {S : mS} (hm : mat dA ad σ h S) {k : Nat} {v : Int} (hk : mLen k = 0) {fs : List Value} (hf : fs = mFs ad (mw S k 0 v)) : mat dA ad (hup σ h (.inr (7, fs))) h (mw S k 0 v) ∧ mFr ad h σ (hup σ h (.inr (7, fs))) := by
  obtain ⟨h1, h2, h3, h4⟩ := hm
  refine ⟨⟨by rw [hup_s, hf], fun k' hk' => ?_, h3, h4⟩, fun a q1 q2 => hup_n q1⟩
  rw [hup_n (h3 k' hk'), h2 k' hk']
  have hne : k' ≠ k := fun q => by subst q; omega
  have : (fun j : Nat => iI (mw S k 0 v k' (j : Int))) = fun j : Nat => iI (S k' (j : Int)) := funext fun j => by rw [mw_k hne]
  rw [this]
theorem mFs_0 (ad : Nat → Nat) (S : mS) (v : Int) : (mFs ad S).set 0 (.int (iI v)) = mFs ad (mw S 0 0 v) := by simp [mFs, mw]
theorem mFs_2 (ad : Nat → Nat) (S : mS) (v : Int) : (mFs ad S).set 2 (.int (iI v)) = mFs ad (mw S 2 0 v) := by simp [mFs, mw]
theorem mFs_13 (ad : Nat → Nat) (S : mS) (v : Int) : (mFs ad S).set 13 (.int (iI v)) = mFs ad (mw S 13 0 v) := by simp [mFs, mw]
theorem mFs_15 (ad : Nat → Nat) (S : mS) (v : Int) : (mFs ad S).set 15 (.int (iI v)) = mFs ad (mw S 15 0 v) := by simp [mFs, mw]
theorem mFs_23 (ad : Nat → Nat) (S : mS) (v : Int) : (mFs ad S).set 23 (.int (iI v)) = mFs ad (mw S 23 0 v) := by simp [mFs, mw]
section MROWS
variable {l0 : Launch} {Γ : gC} {cc : ByteArray} {own : String} {nL : Nat} {R0 : Room} {σ σ0 : hS} {kc ks pc idx : Nat} {ls : gLs} {st : List Value} {ad : Nat → Nat} {h : Nat} {S : mS}
theorem m_iald {k L : Nat} {e : Int} (cx : CX l0 Γ cc own nL R0) (hm : mat (gdA Γ) ad σ h S) (hk : mLen k = L ∧ mT k = 0 ∧ 0 < mLen k ∧ mLen k < 100) (d : decode cc pc = .ok (.iaload, 1)) (he : 0 ≤ e ∧ e < (L : Int)) (kk : G Γ σ kc ks (pc + 1) ls (.int (iI (S k e)) :: st)) : G Γ σ kc ks pc ls (.int (iI e) :: .ref (ad k) :: st) := by
  obtain ⟨rfl, hT, h0, h1⟩ := hk
  have hc := hm.2.1 k h0
  rw [hT] at hc
  refine g_iald cx hc (iI_in he (by omega)) d ?_
  rw [iI_cl (by omega)]
  have : ((e.toNat : Nat) : Int) = e := by omega
  rw [this]
  exact kk
theorem m_zald {k L : Nat} {e : Int} (cx : CX l0 Γ cc own nL R0) (hm : mat (gdA Γ) ad σ h S) (hk : mLen k = L ∧ mT k = 1 ∧ 0 < mLen k ∧ mLen k < 100) (d : decode cc pc = .ok (.baload, 1)) (he : 0 ≤ e ∧ e < (L : Int)) (kk : G Γ σ kc ks (pc + 1) ls (.int (iI (S k e)) :: st)) : G Γ σ kc ks pc ls (.int (iI e) :: .ref (ad k) :: st) := by
  obtain ⟨rfl, hT, h0, h1⟩ := hk
  have hc := hm.2.1 k h0
  rw [hT] at hc
  refine g_zald cx hc (iI_in he (by omega)) d ?_
  rw [iI_cl (by omega)]
  have : ((e.toNat : Nat) : Int) = e := by omega
  rw [this]
  exact kk
theorem mw_upd {k : Nat} {e v : Int} (he : 0 ≤ e) : ∀ j : Nat, upd (fun j : Nat => iI (S k (j : Int))) e.toNat (iI v) j = iI (mw S k e v k (j : Int)) := fun j => by
  unfold upd mw
  by_cases hj : j = e.toNat
  · rw [if_pos hj, if_pos ⟨rfl, by omega⟩]
  · rw [if_neg hj, if_neg (fun q => hj (by omega))]
theorem m_iast {k L : Nat} {e v : Int} (cx : CX l0 Γ cc own nL R0) (hm : mat (gdA Γ) ad σ h S) (hF : mFr ad h σ0 σ) (hk : mLen k = L ∧ mT k = 0 ∧ 0 < mLen k ∧ mLen k < 100) (d : decode cc pc = .ok (.iastore, 1)) (he : 0 ≤ e ∧ e < (L : Int)) (kk : ∀ σ', mat (gdA Γ) ad σ' h (mw S k e v) → mFr ad h σ0 σ' → G Γ σ' kc ks (pc + 1) ls st) : G Γ σ kc ks pc ls (.int (iI v) :: .int (iI e) :: .ref (ad k) :: st) := by
  obtain ⟨rfl, hT, h0, h1⟩ := hk
  have hc := hm.2.1 k h0
  rw [hT] at hc
  refine g_iast cx hc (iI_in he (by omega)) d ?_
  rw [iI_cl (by omega)]
  obtain ⟨q1, q2⟩ := mat_putA hm (k := k) (e := e) (v := v) h0 (mw_upd he.1)
  rw [hT] at q1 q2
  exact kk _ q1 (hF.tr q2)
theorem m_zast {k L : Nat} {e v : Int} (cx : CX l0 Γ cc own nL R0) (hm : mat (gdA Γ) ad σ h S) (hF : mFr ad h σ0 σ) (hk : mLen k = L ∧ mT k = 1 ∧ 0 < mLen k ∧ mLen k < 100) (d : decode cc pc = .ok (.bastore, 1)) (he : 0 ≤ e ∧ e < (L : Int)) (hv : v = 0 ∨ v = 1) (kk : ∀ σ', mat (gdA Γ) ad σ' h (mw S k e v) → mFr ad h σ0 σ' → G Γ σ' kc ks (pc + 1) ls st) : G Γ σ kc ks pc ls (.int (iI v) :: .int (iI e) :: .ref (ad k) :: st) := by
  obtain ⟨rfl, hT, h0, h1⟩ := hk
  have hc := hm.2.1 k h0
  rw [hT] at hc
  refine g_zast cx hc (iI_in he (by omega)) (by rcases hv with rfl | rfl <;> rfl) d ?_
  rw [iI_cl (by omega)]
  obtain ⟨q1, q2⟩ := mat_putA hm (k := k) (e := e) (v := v) h0 (mw_upd he.1)
  rw [hT] at q1 q2
  exact kk _ q1 (hF.tr q2)
theorem m_get {k : Nat} {v : Value} (cx : CX l0 Γ cc own nL R0) (hm : mat (gdA Γ) ad σ h S) (hf : gF own idx 7 k) (hv : (mFs ad S)[k]? = some v) (d : decode cc pc = .ok (.getfield idx, 3)) (kk : G Γ σ kc ks (pc + 3) ls (v :: st)) : G Γ σ kc ks pc ls (.ref h :: st) := g_getf cx hf hm.1 hv d kk
theorem m_put {k : Nat} {v : Int} (cx : CX l0 Γ cc own nL R0) (hm : mat (gdA Γ) ad σ h S) (hF : mFr ad h σ0 σ) (hf : gF own idx 7 k) (hk : mLen k = 0 ∧ gFin 7 k = false ∧ k < 31 ∧ gty 7 k = .int) (hs : (mFs ad S).set k (.int (iI v)) = mFs ad (mw S k 0 v)) (d : decode cc pc = .ok (.putfield idx, 3)) (kk : ∀ σ', mat (gdA Γ) ad σ' h (mw S k 0 v) → mFr ad h σ0 σ' → G Γ σ' kc ks (pc + 3) ls st) : G Γ σ kc ks pc ls (.int (iI v) :: .ref h :: st) := by
  obtain ⟨h0, h1, h2, h3⟩ := hk
  refine g_putf cx hf h1 hm.1 (by simpa [mFs] using h2) (by rw [h3]; rfl) (by rw [h3]; rfl) d ?_
  obtain ⟨q1, q2⟩ := mat_putI hm (k := k) (v := v) h0 hs
  exact kk _ q1 (hF.tr q2)
variable {y : MethodName} {cc' : ByteArray} {nL' : Nat} {ret' : Option FieldType} {rm : Room} {rest As : List Value} {r : Option Value} {S' : mS}
theorem m_callV (cx : CX l0 Γ cc own nL R0) (hl : gV own idx y (.code y cc' nL' ret')) (hM : gM l0 (gdA Γ) y (.code y cc' nL' ret') rm σ (.ref h :: As) (mP (gdA Γ) ad h σ r S') nX) (hm : mat (gdA Γ) ad σ h S) (hF : mFr ad h σ0 σ) (hc : y.cls = RX7) (hy : gY y As.length) (hR : gRm rm R0 nL' kc ks) (h0 : rm.cells = 0 ∧ rm.slots = 0) (hlen : ls.length = nL) (hst : st = As.reverse ++ .ref h :: rest) (hW : (rest.map fun v => v.category).sum ≤ 8) (d : decode cc pc = .ok (.invokevirtual idx, 3))
    (kk : ∀ σ', mat (gdA Γ) ad σ' h S' → mFr ad h σ0 σ' → G Γ σ' kc ks (pc + 3) ls (r.toList ++ rest)) : G Γ σ kc ks pc ls st := by
  refine g_callV cx hl hM hm.1 (by rw [hc]; rfl) hy hR hlen hW hst d (fun _ _ q => q.elim) (fun v σ' q => ?_)
  obtain ⟨rfl, q1, q2⟩ := q
  rw [h0.1, h0.2]
  exact kk σ' q1 (hF.tr q2)
/-- a static method: answers out of its arguments alone -/
def sP (σ : hS) (r : Option Value) : Option Value → hS → Prop := fun v σ' => v = r ∧ σ' = σ
theorem m_callS (cx : CX l0 Γ cc own nL R0) (hl : gS own idx y (.code y cc' nL' ret')) (hM : gM l0 (gdA Γ) y (.code y cc' nL' ret') rm σ As (sP σ r) nX) (hy : gY y As.length) (hR : gRm rm R0 nL' kc ks) (h0 : rm.cells = 0 ∧ rm.slots = 0) (hlen : ls.length = nL) (hst : st = As.reverse ++ rest) (hW : (rest.map fun v => v.category).sum ≤ 8) (d : decode cc pc = .ok (.invokestatic idx, 3))
    (kk : G Γ σ kc ks (pc + 3) ls (r.toList ++ rest)) : G Γ σ kc ks pc ls st := by
  refine g_callS cx hl hM hy hR hlen hW hst d (fun _ _ q => q.elim) (fun v σ' q => ?_)
  obtain ⟨rfl, rfl⟩ := q
  rw [h0.1, h0.2]
  exact kk
end MROWS
