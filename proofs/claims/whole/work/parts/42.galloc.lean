/-! G: constructors, arrays of arrays, System.arraycopy; worlds that grow -/
theorem gM_bodyI {l : Launch} {dA : Nat → ClassId} {y : MethodName} {cc : ByteArray} {nL : Nat} {ret : Option FieldType} {rm : Room} {σ : hS} {av : List Value} {Post : Option Value → hS → Prop} {PX : String → hS → Prop} (hy : plainName y.cls = true) (hin : y.name = "<init>") (hn : ∀ v ∈ av, v.category = 1) (hlen : av.length ≤ nL)
    (body : ∀ Γ : gC, gdA Γ = dA → CX l Γ cc y.cls nL rm → gIni Γ → RX Γ ret rm Post PX → NX Γ → G Γ σ 0 0 0 (av.map some ++ List.replicate (nL - av.length) none) []) : gM l dA y (.code y cc nL ret) rm σ av Post PX := by
  intro D sz
  refine vx_ofW (ws' := TB) hy rfl ?_
  intro p e s m args below meth c s₁ B hml hxt hv
  obtain ⟨rfl, hP, hK, hsz, hZ, hE⟩ := hv
  subst hsz
  have hown : s.vm.findClass y.cls = some m.cls := findClass_of_methodNamed B.named
  have hts0 := atoms_spec B.pre
  rw [lg_entry_eq]
  have hb := body (p, l, e, (headSpec (Cond.code y cc nL ret :: TB) rm).room, s, m, av.toArray, below, meth, c, gA σ s.heap.size, D, dA, vx_MQ below (gQc D σ s.heap.size Post) (gXc D σ s.heap.size PX) av.toArray s rm.cells rm.slots (gA σ s.heap.size))
    rfl ⟨B.exec, B.bytes, hml, hown, fun w hw => hts0 w (List.mem_cons_of_mem _ hw), hK, fun q h => Or.inr h, B.notSynchronized, rfl, rfl, hZ, hE⟩ ((name_of_methodNamed B.named B.method).1.trans hin) ⟨B.returns, σ, s.heap.size, rfl, rfl⟩ hxt
  exact hb s.heap [] _ hP (fun a e h => Or.inl (by rw [h]; exact fun q => by cases q)) va_S.rf (gL_entry hn hlen)
theorem hup_hup {σ : hS} {a : Nat} {e e' : va_E} : hup (hup σ a e) a e' = hup σ a e' := by
  funext q
  by_cases h : q = a
  · subst h; rw [hup_s, hup_s]
  · rw [hup_n h, hup_n h, hup_n h]
theorem hup_self {σ : hS} {a : Nat} {e : va_E} (h : σ a = some e) : hup σ a e = σ := by
  funext q
  by_cases hq : q = a
  · subst hq; rw [hup_s, h]
  · rw [hup_n hq]
/-- a world that grew: the cells of ws over σ0, in the order of their making; the first may have been there -/
def hld (σ0 : hS) (ws : List (Nat × va_E)) (σ : hS) : Prop := (∀ (i : Nat) (p : Nat × va_E), ws[i]? = some p → σ p.1 = some p.2) ∧ (∀ (i j : Nat) (p q : Nat × va_E), ws[i]? = some p → ws[j]? = some q → p.1 = q.1 → i = j) ∧ (∀ q : Nat, (∀ (i : Nat) (p : Nat × va_E), ws[i]? = some p → q ≠ p.1) → σ q = σ0 q) ∧ ∀ (i : Nat) (p : Nat × va_E), 0 < i → ws[i]? = some p → σ0 p.1 = none
theorem hld.one {σ : hS} {a : Nat} {e : va_E} (h : σ a = some e) : hld σ [(a, e)] σ := by
  refine ⟨fun i p hp => ?_, fun i j p q hp hq _ => ?_, fun _ _ => rfl, fun i p h0 hp => ?_⟩
  · match i, hp with
    | 0, hp => cases hp; exact h
    | i + 1, hp => simp at hp
  · have h1 := (List.getElem?_eq_some_iff.mp hp).1
    have h2 := (List.getElem?_eq_some_iff.mp hq).1
    simp at h1 h2
    omega
  · have h1 := (List.getElem?_eq_some_iff.mp hp).1
    simp at h1
    omega
theorem hld.new {σ0 σ : hS} {ws : List (Nat × va_E)} (h : hld σ0 ws σ) (hne : 0 < ws.length) {q : Nat} {e : va_E} (hq : σ q = none) : hld σ0 (ws ++ [(q, e)]) (hup σ q e) := by
  obtain ⟨h1, h2, h3, h4⟩ := h
  have hfr : ∀ (i : Nat) (p : Nat × va_E), ws[i]? = some p → p.1 ≠ q := fun i p hp e => by
    have := h1 i p hp
    rw [e, hq] at this
    cases this
  have hcase : ∀ (i : Nat) (p : Nat × va_E), (ws ++ [(q, e)])[i]? = some p → (ws[i]? = some p ∧ i < ws.length) ∨ (i = ws.length ∧ p = (q, e)) := fun i p hp => by
    rcases Nat.lt_or_ge i ws.length with hl | hl
    · rw [List.getElem?_append_left hl] at hp
      exact Or.inl ⟨hp, hl⟩
    · rw [List.getElem?_append_right hl] at hp
      have h9 := (List.getElem?_eq_some_iff.mp hp).1
      simp at h9
      have h0 : i - ws.length = 0 := by omega
      rw [h0] at hp
      cases hp
      exact Or.inr ⟨by omega, rfl⟩
  refine ⟨fun i p hp => ?_, fun i j p r hp hr hpr => ?_, fun x hx => ?_, fun i p h0 hp => ?_⟩
  · rcases hcase i p hp with ⟨k, -⟩ | ⟨-, rfl⟩
    · rw [hup_n (hfr i p k)]; exact h1 i p k
    · exact hup_s _ _ _
  · rcases hcase i p hp with ⟨k, l1⟩ | ⟨l1, rfl⟩ <;> rcases hcase j r hr with ⟨k2, l2⟩ | ⟨l2, rfl⟩
    · exact h2 i j p r k k2 hpr
    · exact absurd hpr (hfr i p k)
    · exact absurd hpr.symm (hfr j r k2)
    · omega
  · have hxq : x ≠ q := hx ws.length (q, e) (by rw [List.getElem?_append_right (Nat.le_refl _), Nat.sub_self]; rfl)
    rw [hup_n hxq]
    exact h3 x (fun i p hp => hx i p (by rw [List.getElem?_append_left (List.getElem?_eq_some_iff.mp hp).1]; exact hp))
  · rcases hcase i p hp with ⟨k, -⟩ | ⟨l1, rfl⟩
    · exact h4 i p h0 k
    · rw [← h3 q (fun i p hp => (hfr i p hp).symm)]
      exact hq
theorem hld.set {σ0 σ : hS} {ws : List (Nat × va_E)} (h : hld σ0 ws σ) (k : Nat) {a : Nat} {e0 e : va_E} (hk : ws[k]? = some (a, e0)) : hld σ0 (ws.set k (a, e)) (hup σ a e) := by
  obtain ⟨h1, h2, h3, h4⟩ := h
  have hl := (List.getElem?_eq_some_iff.mp hk).1
  have hcase : ∀ (i : Nat) (p : Nat × va_E), (ws.set k (a, e))[i]? = some p → (i = k ∧ p = (a, e)) ∨ (i ≠ k ∧ ws[i]? = some p) := fun i p hp => by
    by_cases hi : i = k
    · subst hi
      rw [List.getElem?_set_self hl] at hp
      exact Or.inl ⟨rfl, (Option.some.inj hp).symm⟩
    · rw [List.getElem?_set_ne (Ne.symm hi)] at hp
      exact Or.inr ⟨hi, hp⟩
  have hback : ∀ (i : Nat) (p : Nat × va_E), ws[i]? = some p → ∃ p', (ws.set k (a, e))[i]? = some p' ∧ p'.1 = p.1 := fun i p hp => by
    by_cases hi : i = k
    · subst hi
      rw [hk] at hp
      cases hp
      exact ⟨(a, e), List.getElem?_set_self hl, rfl⟩
    · exact ⟨p, by rw [List.getElem?_set_ne (Ne.symm hi)]; exact hp, rfl⟩
  refine ⟨fun i p hp => ?_, fun i j p r hp hr hpr => ?_, fun x hx => ?_, fun i p h0 hp => ?_⟩
  · rcases hcase i p hp with ⟨-, rfl⟩ | ⟨hi, hp⟩
    · exact hup_s _ _ _
    · rw [hup_n (fun q => hi (h2 i k p (a, e0) hp hk q))]
      exact h1 i p hp
  · rcases hcase i p hp with ⟨rfl, rfl⟩ | ⟨hi, hp2⟩ <;> rcases hcase j r hr with ⟨rfl, rfl⟩ | ⟨hj, hr2⟩
    · rfl
    · exact h2 _ _ (a, e0) r hk hr2 hpr
    · exact h2 _ _ p (a, e0) hp2 hk hpr
    · exact h2 _ _ p r hp2 hr2 hpr
  · obtain ⟨p', q1, q2⟩ := hback k (a, e0) hk
    have hxa : x ≠ a := by rw [← show p'.1 = a from q2]; exact hx k p' q1
    rw [hup_n hxa]
    exact h3 x (fun i p hp => by
      obtain ⟨p', q1, q2⟩ := hback i p hp
      rw [← q2]
      exact hx i p' q1)
  · rcases hcase i p hp with ⟨rfl, rfl⟩ | ⟨hi, hp⟩
    · exact h4 _ (a, e0) h0 hk
    · exact h4 i p h0 hp
section GALLOC
variable {l0 : Launch} {Γ : gC} {cc : ByteArray} {own : String} {nL : Nat} {R0 : Room} {σ : hS} {kc ks pc : Nat} {ls : gLs} {st : List Value}
/-- int[6][6] -/
theorem g_mna66 {idx : Nat} (cx : CX l0 Γ cc own nL R0) (hw : Cond.classLink own idx "[[I" ∈ TB) (hac : Cond.arrayClass .int ∈ TB) (hc : kc + 7 ≤ R0.cells) (hs : ks + 42 ≤ R0.slots) (d : decode cc pc = .ok (.multianewarray idx 2, 4))
    (kk : ∀ q, (∀ j, j ≤ 6 → σ (q + j) = none) → G Γ (hup (hup (hup (hup (hup (hup (hup σ q (.inl (gdA Γ 6, 6, .inr (.inr (.inr (.inr (fun i => if i < 6 then some (q + 1 + i) else none))))))) (q + 1) (.inl (gdA Γ 0, 6, .inl (fun _ => 0)))) (q + 2) (.inl (gdA Γ 0, 6, .inl (fun _ => 0)))) (q + 3) (.inl (gdA Γ 0, 6, .inl (fun _ => 0)))) (q + 4) (.inl (gdA Γ 0, 6, .inl (fun _ => 0)))) (q + 5) (.inl (gdA Γ 0, 6, .inl (fun _ => 0)))) (q + 6) (.inl (gdA Γ 0, 6, .inl (fun _ => 0)))) (kc + 7) (ks + 42) (pc + 4) ls (.ref q :: st)) : G Γ σ kc ks pc ls (.int (iI 6) :: .int (iI 6) :: st) := by
  obtain ⟨p, l, e, R, s, m, args, below, meth, c, A, D, dA, Q⟩ := Γ
  obtain ⟨hx, hb, hml, hown, hts, hK, hAA, hlk, hl0, hR0, hZ, hE⟩ := cx
  subst hR0
  intro H locs la hP hA hS hL
  have n6 : (iI 6).toNatClampNeg = 6 := rfl
  intro T hT Xs
  obtain ⟨vm₁, cA, comp, -, fA, fC, hO, -, X', step⟩ := Xs.multianewarray2F hx hown (hts _ hw) (ty := .int) (va_AOA.use hE.2.2.2.2.1) (hts _ hac) (g := F0 m pc la (.int (iI 6) :: .int (iI 6) :: st)) rfl (by rw [hb]; exact d) (n := iI 6) (k := iI 6) rfl (by decide) (by decide) (by rw [n6]; decide) (by rw [n6]; decide) (by rw [n6]; decide) rfl rfl (by rw [n6]; omega) (by rw [n6]; omega)
  rw [n6] at X' step
  generalize hF : Jvm.Free.Multi.fill (T.setVm vm₁) cA comp 6 6 (defaultValue .int) 6 = F at X' step
  have hTh : (T.setVm vm₁).heap = H := hT
  obtain ⟨f1, f2, -, -⟩ := Jvm.Free.Multi.fill_facts (T.setVm vm₁) cA comp 6 6 (defaultValue .int) 6
  rw [hF, hTh] at f1 f2
  have ecA : cA = dA 6 := Option.some.inj (fA.symm.trans (hK.2 6 (dA 6, .array .int) rfl).2)
  have ecC : comp = dA 0 := Option.some.inj (fC.symm.trans (hK.2 0 (dA 0, .int) rfl).2)
  subst ecA
  subst ecC
  have hold : ∀ x : Nat, x < H.size → F.heap[x]? = H[x]? := fun x hx => by
    have := Jvm.Free.Multi.fill_old (T.setVm vm₁) (dA 6) (dA 0) 6 6 (defaultValue .int) (a := x) (by rw [hTh]; exact hx) 6
    rw [hF, hTh] at this
    exact this
  have hrow : ∀ j : Nat, j < 6 → va_at D gcl (H.size + 1 + j, .inl (dA 0, 6, .inl (fun _ => 0))) F.heap := fun j hj => by
    have := Jvm.Free.Multi.fill_inner (T.setVm vm₁) (dA 6) (dA 0) 6 6 (defaultValue .int) 6 j hj
    rw [hF, hTh] at this
    exact this
  have hout : Jvm.Free.Multi.outerC (dA 6) 6 H.size 6 = vp_cell (dA 6) (6, .inr (.inr (.inr (.inr (fun i => if i < 6 then some (H.size + 1 + i) else none))))) := by
    rw [vp_cell_q]
    exact vr_outer (dA 6) 6 H.size 6
  rw [hout] at f2
  have hfr : ∀ j, j ≤ 6 → σ (H.size + j) = none := fun j _ => by
    cases hσ : σ (H.size + j) with
    | none => rfl
    | some e => exact absurd (hP.lt hσ) (by omega)
  have k := kk H.size hfr F.heap locs la
    ((((((((hP.push (H1 := F.heap) (a := H.size) (e := .inl (dA 6, 6, .inr (.inr (.inr (.inr (fun i => if i < 6 then some (H.size + 1 + i) else none)))))) f2 (Nat.le_refl _) hold).put (hrow 0 (by decide)) (fun _ _ => rfl)).put (hrow 1 (by decide)) (fun _ _ => rfl)).put (hrow 2 (by decide)) (fun _ _ => rfl)).put (hrow 3 (by decide)) (fun _ _ => rfl)).put (hrow 4 (by decide)) (fun _ _ => rfl)).put (hrow 5 (by decide)) (fun _ _ => rfl)))
    (fun a e h => by
      by_cases hlt : H.size ≤ a
      · exact hAA a (Nat.le_trans hS.1 hlt)
      · rw [hup_n (by omega), hup_n (by omega), hup_n (by omega), hup_n (by omega), hup_n (by omega), hup_n (by omega), hup_n (by omega)] at h
        exact hA a e h)
    ⟨by rw [f1]; have := hS.1; omega, fun x h1 h2 => (hold x (Nat.lt_of_lt_of_le h1 hS.1)).trans (hS.2.1 x h1 h2), hS.2.2⟩ hL
  obtain ⟨t, a1, b1⟩ := k F rfl X'
  refine ⟨t, step t ?_, b1⟩
  have e : T.heap.size = H.size := by rw [hT]
  rw [e]
  exact a1
def cpN (f g : Nat → Int32) (n : Nat) : Nat → Int32 := fun k => if k < n then f k else g k
theorem g_copy {idx : Nat} {a0 a n0 n1 : Nat} {f g : Nat → Int32} {n : Int} {N : Nat} (cx : CX l0 Γ cc own nL R0) (hlen : ls.length = nL) (hw : Cond.methodLink own idx arraycopyName ∈ TB) (hnat : Cond.native arraycopyName ∈ TB) (hst : Cond.static arraycopyName ∈ TB) (hini : Cond.initialized "java/lang/System" ∈ TB)
    (h0 : σ a0 = some (.inl (gdA Γ 0, n0, .inl f))) (h1 : σ a = some (.inl (gdA Γ 0, n1, .inl g))) (hn : n = (N : Int)) (hN : N ≤ n0 ∧ N ≤ n1 ∧ N ≤ 1000) (hf : 1 ≤ R0.frames) (hl : (st.map fun v => v.category).sum + (nativeFrameWords "java/lang/System" "arraycopy" 5 + 11) ≤ R0.locals) (d : decode cc pc = .ok (.invokestatic idx, 3))
    (kk : G Γ (hup σ a (.inl (gdA Γ 0, n1, .inl (cpN f g N)))) kc ks (pc + 3) ls st) : G Γ σ kc ks pc ls (.int (iI n) :: .int (iI 0) :: .ref a :: .int (iI 0) :: .ref a0 :: st) := by
  subst hn
  obtain ⟨p, l, e, R, s, m, args, below, meth, c, A, D, dA, Q⟩ := Γ
  obtain ⟨hx, hb, hml, hown, hts, hK, hAA, hlk, hl0, hR0, hZ, hE⟩ := cx
  subst hR0
  intro H locs la hP hA hS hL
  have hnn : (iI (N : Int)).toNatClampNeg = N := by rw [iI_cl (by omega)]; omega
  have hnI : (iI (N : Int)).toInt = (N : Int) := iI_toInt (by omega)
  have hn0 : ¬ iI (N : Int) < 0 := (iI_in (N := N + 1) (by omega) (by omega)) ∘ Or.inl
  intro T hT X
  have hc0 : H[a0]? = some (vp_cell (dA 0) (n0, .inl f)) := hP a0 _ h0
  have hc1 : H[a]? = some (vp_cell (dA 0) (n1, .inl g)) := hP a _ h1
  obtain ⟨-, k0, hk0, cm0, hkk0⟩ := (hK.2 0 _ rfl).1 n0 (fun j => .int (f j))
  obtain ⟨-, k1, hk1, cm1, hkk1⟩ := (hK.2 0 _ rfl).1 n1 (fun j => .int (g j))
  obtain ⟨vm', X', step⟩ := X.arraycopy hx hown (hts _ hw) (hts _ hnat) (hts _ hst) (hts _ hini) (src := a0) (dst := a) (cs := vp_cell (dA 0) (n0, .inl f)) (cd := vp_cell (dA 0) (n1, .inl g)) (srcPos := iI 0) (destPos := iI 0) (n := iI (N : Int)) (by rw [hT]; exact hc0) (by rw [hT]; exact hc1)
    (fun _ h => by cases h) (fun _ h => by cases h) (fun h => by cases h) (fun h => by cases h) hk0 hk1 hkk0 hkk1 (by simp [refKind]) (by decide) (by decide) hn0
    (by rw [hnI]; show ¬ (iI 0).toInt + (N : Int) > ((arrV (dA 0) n0 (fun j => .int (f j))).slots.size : Int); rw [arrV_size, show (iI 0).toInt = 0 from rfl]; omega)
    (by rw [hnI]; show ¬ (iI 0).toInt + (N : Int) > ((arrV (dA 0) n1 (fun j => .int (g j))).slots.size : Int); rw [arrV_size, show (iI 0).toInt = 0 from rfl]; omega)
    (fun vm₁ _ i hi => by
      rw [hnn] at hi
      have e : (vp_cell (dA 0) (n0, .inl f)).slots.getD ((iI 0).toNatClampNeg + i) .null = .int (f ((iI 0).toNatClampNeg + i)) := by
        show (arrV (dA 0) n0 (fun j => .int (f j))).slots.getD _ _ = _
        rw [Array.getD_eq_getD_getElem?, arrV_read _ _ (by rw [show (iI 0).toNatClampNeg = 0 from rfl]; omega)]
        rfl
      refine ⟨?_, ?_⟩
      · rw [e]; rfl
      · rw [e]; exact trivial)
    (g := F0 m pc la (.int (iI (N : Int)) :: .int (iI 0) :: .ref a :: .int (iI 0) :: .ref a0 :: st)) rfl (by rw [hml, ← hlen]; exact hL.1) (rest := st) rfl (by rw [hb]; exact d) hf (by show 2 * 0 + _ + _ ≤ _; omega)
  have e1 : copied (vp_cell (dA 0) (n0, .inl f)) (vp_cell (dA 0) (n1, .inl g)) (iI 0) (iI 0) (iI (N : Int)) = vp_cell (dA 0) (n1, .inl (cpN f g N)) := by
    have e0 : copied (vp_cell (dA 0) (n0, .inl f)) (vp_cell (dA 0) (n1, .inl g)) (iI 0) (iI 0) (iI (N : Int)) = vp_cell (dA 0) (n1, .inl (va_cpy f g (iI 0).toNatClampNeg (iI 0).toNatClampNeg (iI (N : Int)).toNatClampNeg)) := va_copied (fun z => .int z) (dA 0) (dA 0) f g (by rw [hnn, show (iI 0).toNatClampNeg = 0 from rfl]; omega)
    rw [e0, hnn, show (iI 0).toNatClampNeg = 0 from rfl]
    have e5 : va_cpy f g 0 0 N = cpN f g N := ?_
    · rw [e5]
    funext k
    unfold va_cpy cpN
    by_cases hk : k < N
    · rw [if_pos (by omega), if_pos hk]; congr 1; omega
    · rw [if_neg (by omega), if_neg hk]
  rw [e1] at X' step
  have hl9 : a < H.size := (Array.getElem?_eq_some_iff.mp hc1).1
  have hheap : ((T.setVm vm').setCell a (vp_cell (dA 0) (n1, .inl (cpN f g N)))).heap = H.setIfInBounds a (vp_cell (dA 0) (n1, .inl (cpN f g N))) := by rw [← hT]; rfl
  have oq : ∀ q : Nat, q ≠ a → (H.setIfInBounds a (vp_cell (dA 0) (n1, .inl (cpN f g N))))[q]? = H[q]? := fun q hq => by simp [Array.getElem?_setIfInBounds, Ne.symm hq]
  obtain ⟨t, a1, b1⟩ := kk (H.setIfInBounds a (vp_cell (dA 0) (n1, .inl (cpN f g N)))) _ la (hP.put (show (H.setIfInBounds a (vp_cell (dA 0) (n1, .inl (cpN f g N))))[a]? = some (vp_cell (dA 0) (n1, .inl (cpN f g N))) by simp [Array.getElem?_setIfInBounds, hl9]) oq) (g_hA hA h1) ⟨by simp; exact hS.1, fun q g1 g2 => by
      rw [oq q (fun e => g2 (by rw [e]; exact hA a _ h1))]
      exact hS.2.1 q g1 g2, fun q hq => by
      rcases List.mem_append.mp hq with h | h
      · exact hS.2.2 q h
      · obtain ⟨z, -, hz⟩ := List.mem_map.mp h
        rw [← hz]
        exact hA a _ h1⟩ hL _ hheap X'
  exact ⟨t, step t a1, b1⟩
end GALLOC
