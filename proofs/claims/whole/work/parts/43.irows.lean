/-! rows of constructors: over a world that grows -/
theorem hld.call {σ0 σ σ9 : hS} {ws ws' : List (Nat × va_E)} {k a : Nat} {e0 e : va_E} (h : hld σ0 ws σ) (hk : ws[k]? = some (a, e0)) (h' : hld σ ((a, e) :: ws') σ9) : hld σ0 (ws.set k (a, e) ++ ws') σ9 := by
  obtain ⟨h1, h2, h3, h4⟩ := h
  obtain ⟨g1, g2, g3, g4⟩ := h'
  have hl := (List.getElem?_eq_some_iff.mp hk).1
  have hkp : k ≠ 0 → 0 < k := fun q => by omega
  have gn : ∀ (i : Nat) (p : Nat × va_E), ws'[i]? = some p → σ p.1 = none := fun i p hp => g4 (i + 1) p (by omega) hp
  have hno : ∀ (i : Nat) (p : Nat × va_E), ws[i]? = some p → ∀ (j : Nat) (r : Nat × va_E), ws'[j]? = some r → p.1 ≠ r.1 := fun i p hp j r hr e => by
    have q1 := h1 i p hp
    rw [e, gn j r hr] at q1
    cases q1
  have hcase : ∀ (i : Nat) (p : Nat × va_E), (ws.set k (a, e) ++ ws')[i]? = some p → (i = k ∧ p = (a, e)) ∨ (i ≠ k ∧ i < ws.length ∧ ws[i]? = some p) ∨ (ws.length ≤ i ∧ ws'[i - ws.length]? = some p) := fun i p hp => by
    rcases Nat.lt_or_ge i ws.length with q | q
    · rw [List.getElem?_append_left (by rw [List.length_set]; exact q)] at hp
      by_cases hi : i = k
      · subst hi
        rw [List.getElem?_set_self hl] at hp
        exact Or.inl ⟨rfl, (Option.some.inj hp).symm⟩
      · rw [List.getElem?_set_ne (Ne.symm hi)] at hp
        exact Or.inr (Or.inl ⟨hi, q, hp⟩)
    · rw [List.getElem?_append_right (by rw [List.length_set]; exact q), List.length_set] at hp
      exact Or.inr (Or.inr ⟨q, hp⟩)
  refine ⟨fun i p hp => ?_, fun i j p r hp hr hpr => ?_, fun x hx => ?_, fun i p h0 hp => ?_⟩
  · rcases hcase i p hp with ⟨-, rfl⟩ | ⟨hi, -, hp2⟩ | ⟨-, hp2⟩
    · exact g1 0 (a, e) rfl
    · rw [g3 p.1 (fun j r hr => by
        match j, hr with
        | 0, hr => cases hr; exact fun q => hi (h2 i k p (a, e0) hp2 hk q)
        | j + 1, hr => exact hno i p hp2 j r hr)]
      exact h1 i p hp2
    · exact g1 (i - ws.length + 1) p hp2
  · rcases hcase i p hp with ⟨rfl, rfl⟩ | ⟨hi, li, hp2⟩ | ⟨li, hp2⟩ <;> rcases hcase j r hr with ⟨rfl, rfl⟩ | ⟨hj, lj, hr2⟩ | ⟨lj, hr2⟩
    · rfl
    · exact h2 _ _ (a, e0) r hk hr2 hpr
    · exact absurd hpr (hno _ (a, e0) hk _ r hr2)
    · exact h2 _ _ p (a, e0) hp2 hk hpr
    · exact h2 _ _ p r hp2 hr2 hpr
    · exact absurd hpr (hno _ p hp2 _ r hr2)
    · exact absurd hpr.symm (hno _ (a, e0) hk _ p hp2)
    · exact absurd hpr.symm (hno _ r hr2 _ p hp2)
    · have := g2 (i - ws.length + 1) (j - ws.length + 1) p r hp2 hr2 hpr
      omega
  · have ha : x ≠ a := hx k (a, e) (by rw [List.getElem?_append_left (by rw [List.length_set]; exact hl), List.getElem?_set_self hl])
    rw [g3 x (fun j r hr => by
      match j, hr with
      | 0, hr => cases hr; exact ha
      | j + 1, hr => exact hx (ws.length + j) r (by rw [List.getElem?_append_right (by rw [List.length_set]; omega), List.length_set, Nat.add_sub_cancel_left]; exact hr))]
    refine h3 x (fun i p hp => ?_)
    by_cases hi : i = k
    · subst hi
      rw [hk] at hp
      cases hp
      exact ha
    · exact hx i p (by rw [List.getElem?_append_left (by rw [List.length_set]; exact (List.getElem?_eq_some_iff.mp hp).1), List.getElem?_set_ne (Ne.symm hi)]; exact hp)
  · rcases hcase i p hp with ⟨rfl, rfl⟩ | ⟨hi, -, hp2⟩ | ⟨-, hp2⟩
    · exact h4 _ (a, e0) h0 hk
    · exact h4 i p h0 hp2
    · rw [← h3 p.1 (fun j r hr => (hno j r hr _ p hp2).symm)]
      exact gn _ p hp2
section IROWS
variable {l0 : Launch} {Γ : gC} {cc : ByteArray} {own : String} {nL : Nat} {R0 : Room} {σ0 σ : hS} {kc ks pc : Nat} {ls : gLs} {st : List Value} {ws : List (Nat × va_E)}
theorem i_newa {atype : ArrayType} {ty : FieldType} {t N : Nat} {n : Int32} {a0 : vp_A} (cx : CX l0 Γ cc own nL R0) (hd : hld σ0 ws σ) (hne : 0 < ws.length) (hty : newarray.typeOf atype = ty) (hw : Cond.arrayClass ty ∈ TB) (ht : (tyL (gdA Γ))[t]? = some (gdA Γ t, ty)) (ha : ∀ cA : ClassId, vp_cell cA a0 = arrV cA N (fun _ => defaultValue ty)) (hn : ¬ n < 0) (hN : n.toNatClampNeg = N) (hbytes : N * componentBytes ty ≤ 536870912) (hc : kc + 1 ≤ R0.cells) (hs : ks + N ≤ R0.slots) (d : decode cc pc = .ok (.newarray atype, 2)) (kk : ∀ (q : Nat) (σ' : hS), hld σ0 (ws ++ [(q, .inl (gdA Γ t, a0))]) σ' → G Γ σ' (kc + 1) (ks + N) (pc + 2) ls (.ref q :: st)) : G Γ σ kc ks pc ls (.int n :: st) :=
  g_newa cx hty hw ht ha hn hN hbytes hc hs d (fun q hq => kk q _ (hd.new hne hq))
theorem i_anew {C : String} {idx t N : Nat} {n : Int32} (cx : CX l0 Γ cc own nL R0) (hd : hld σ0 ws σ) (hne : 0 < ws.length) (hC : C ∈ gArr) (hw : Cond.classLink own idx C ∈ TB) (ht : (tyL (gdA Γ))[t]? = some (gdA Γ t, .object C)) (hn : ¬ n < 0) (hN : n.toNatClampNeg = N) (hbytes : N * 4 ≤ 536870912) (hc : kc + 1 ≤ R0.cells) (hs : ks + N ≤ R0.slots) (d : decode cc pc = .ok (.anewarray idx, 3)) (kk : ∀ (q : Nat) (σ' : hS), hld σ0 (ws ++ [(q, .inl (gdA Γ t, N, .inr (.inr (.inr (.inr (fun _ => none))))))]) σ' → G Γ σ' (kc + 1) (ks + N) (pc + 3) ls (.ref q :: st)) : G Γ σ kc ks pc ls (.int n :: st) :=
  g_anew cx hC hw ht hn hN hbytes hc hs d (fun q hq => kk q _ (hd.new hne hq))
theorem i_new {idx ci : Nat} {r : vw_C} {fs : List Value} (cx : CX l0 Γ cc own nL R0) (hd : hld σ0 ws σ) (hne : 0 < ws.length) (hr : gcl[ci]? = some r) (hw : Cond.classLink own idx r.1 ∈ TB) (hi : Cond.instantiable r.1 r.2.2 ∈ TB) (hn : Cond.initialized r.1 ∈ TB) (hfs : ∀ j, j < r.2.2 → defaultValue (gty ci j) = vp_V fs j) (hc : kc + 1 ≤ R0.cells) (hs : ks + r.2.2 ≤ R0.slots) (d : decode cc pc = .ok (.new idx, 3)) (kk : ∀ (q : Nat) (σ' : hS), hld σ0 (ws ++ [(q, .inr (ci, fs))]) σ' → G Γ σ' (kc + 1) (ks + r.2.2) (pc + 3) ls (.ref q :: st)) : G Γ σ kc ks pc ls st :=
  g_new cx hr hw hi hn hfs hc hs d (fun q hq => kk q _ (hd.new hne hq))
theorem i_putF {idx ci k a i : Nat} {fs : List Value} {v : Value} (cx : CX l0 Γ cc own nL R0) (hini : gIni Γ) (hd : hld σ0 ws σ) (hi : ws[i]? = some (a, .inr (ci, fs))) (hdc : ∃ r, gcl[ci]? = some r ∧ (r.2.1 k).1 = own) (hf : gF own idx ci k) (hfin : gFin ci k = true) (hl : k < fs.length) (hn : narrow (gty ci k) v = v) (hfit : fits (gty ci k) v = true) (d : decode cc pc = .ok (.putfield idx, 3)) (kk : ∀ σ' : hS, hld σ0 (ws.set i (a, .inr (ci, fs.set k v))) σ' → G Γ σ' kc ks (pc + 3) ls st) : G Γ σ kc ks pc ls (v :: .ref a :: st) :=
  g_putF cx hini hdc hf hfin (hd.1 i _ hi) hl hn hfit d (kk _ (hd.set i hi))
theorem i_iast {a N i : Nat} {f : Nat → Int32} {j x : Int32} (cx : CX l0 Γ cc own nL R0) (hd : hld σ0 ws σ) (hi : ws[i]? = some (a, .inl (gdA Γ 0, N, .inl f))) (hin : vp_in j N) (d : decode cc pc = .ok (.iastore, 1)) (kk : ∀ σ' : hS, hld σ0 (ws.set i (a, .inl (gdA Γ 0, N, .inl (upd f j.toNatClampNeg x)))) σ' → G Γ σ' kc ks (pc + 1) ls st) : G Γ σ kc ks pc ls (.int x :: .int j :: .ref a :: st) :=
  g_iast cx (hd.1 i _ hi) hin d (kk _ (hd.set i hi))
theorem i_aast {a N v t ci i j : Nat} {r : vw_C} {vs : List Value} {f : Nat → Option Nat} {x : Int32} (cx : CX l0 Γ cc own nL R0) (hd : hld σ0 ws σ) (hi : ws[i]? = some (a, .inl (gdA Γ t, N, .inr (.inr (.inr (.inr f)))))) (hj : ws[j]? = some (v, .inr (ci, vs))) (hc : gcl[ci]? = some r) (ht : (tyL (gdA Γ))[t]? = some (gdA Γ t, .object r.1)) (hin : vp_in x N) (d : decode cc pc = .ok (.aastore, 1)) (kk : ∀ σ' : hS, hld σ0 (ws.set i (a, .inl (gdA Γ t, N, .inr (.inr (.inr (.inr (va_up f x.toNatClampNeg (some v)))))))) σ' → G Γ σ' kc ks (pc + 1) ls st) : G Γ σ kc ks pc ls (.ref v :: .int x :: .ref a :: st) :=
  g_aast cx (hd.1 i _ hi) (hd.1 j _ hj) hc ht hin d (kk _ (hd.set i hi))
theorem i_mna66 {idx : Nat} (cx : CX l0 Γ cc own nL R0) (hd : hld σ0 ws σ) (hne : 0 < ws.length) (hw : Cond.classLink own idx "[[I" ∈ TB) (hac : Cond.arrayClass .int ∈ TB) (hc : kc + 7 ≤ R0.cells) (hs : ks + 42 ≤ R0.slots) (d : decode cc pc = .ok (.multianewarray idx 2, 4))
    (kk : ∀ (q : Nat) (σ' : hS), hld σ0 (((((((ws ++ [(q, .inl (gdA Γ 6, 6, .inr (.inr (.inr (.inr (fun i => if i < 6 then some (q + 1 + i) else none))))))]) ++ [(q + 1, .inl (gdA Γ 0, 6, .inl (fun _ => iI 0)))]) ++ [(q + 2, .inl (gdA Γ 0, 6, .inl (fun _ => iI 0)))]) ++ [(q + 3, .inl (gdA Γ 0, 6, .inl (fun _ => iI 0)))]) ++ [(q + 4, .inl (gdA Γ 0, 6, .inl (fun _ => iI 0)))]) ++ [(q + 5, .inl (gdA Γ 0, 6, .inl (fun _ => iI 0)))]) ++ [(q + 6, .inl (gdA Γ 0, 6, .inl (fun _ => iI 0)))]) σ' → G Γ σ' (kc + 7) (ks + 42) (pc + 4) ls (.ref q :: st)) : G Γ σ kc ks pc ls (.int (iI 6) :: .int (iI 6) :: st) := by
  refine g_mna66 cx hw hac hc hs d (fun q hq => kk q _ ?_)
  have z0 := hd.new (e := .inl (gdA Γ 6, 6, .inr (.inr (.inr (.inr (fun i => if i < 6 then some (q + 1 + i) else none)))))) hne (hq 0 (by decide))
  have z1 := z0.new (q := q + 1) (e := .inl (gdA Γ 0, 6, .inl (fun _ => iI 0))) (by simp) (by rw [hup_n (by omega)]; exact hq 1 (by decide))
  have z2 := z1.new (q := q + 2) (e := .inl (gdA Γ 0, 6, .inl (fun _ => iI 0))) (by simp) (by rw [hup_n (by omega), hup_n (by omega)]; exact hq 2 (by decide))
  have z3 := z2.new (q := q + 3) (e := .inl (gdA Γ 0, 6, .inl (fun _ => iI 0))) (by simp) (by rw [hup_n (by omega), hup_n (by omega), hup_n (by omega)]; exact hq 3 (by decide))
  have z4 := z3.new (q := q + 4) (e := .inl (gdA Γ 0, 6, .inl (fun _ => iI 0))) (by simp) (by rw [hup_n (by omega), hup_n (by omega), hup_n (by omega), hup_n (by omega)]; exact hq 4 (by decide))
  have z5 := z4.new (q := q + 5) (e := .inl (gdA Γ 0, 6, .inl (fun _ => iI 0))) (by simp) (by rw [hup_n (by omega), hup_n (by omega), hup_n (by omega), hup_n (by omega), hup_n (by omega)]; exact hq 5 (by decide))
  exact z5.new (q := q + 6) (e := .inl (gdA Γ 0, 6, .inl (fun _ => iI 0))) (by simp) (by rw [hup_n (by omega), hup_n (by omega), hup_n (by omega), hup_n (by omega), hup_n (by omega), hup_n (by omega)]; exact hq 6 (by decide))
end IROWS
