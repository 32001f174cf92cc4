/-! two worlds side by side -/
def uni (σ1 σ2 : hS) : hS := fun a => match σ1 a with
  | some e => some e
  | none => σ2 a
def dis (σ1 σ2 : hS) : Prop := ∀ a, σ1 a = none ∨ σ2 a = none
theorem uni_l {σ1 σ2 : hS} {a : Nat} {e : va_E} (h : σ1 a = some e) : uni σ1 σ2 a = some e := by unfold uni; rw [h]
theorem uni_n {σ1 σ2 : hS} {a : Nat} (h : σ1 a = none) : uni σ1 σ2 a = σ2 a := by unfold uni; rw [h]
theorem uni_r {σ1 σ2 : hS} (hd : dis σ1 σ2) {a : Nat} {e : va_E} (h : σ2 a = some e) : uni σ1 σ2 a = some e := by
  rw [uni_n ((hd a).resolve_right (by rw [h]; exact fun z => nomatch z))]
  exact h
theorem uni_some {σ1 σ2 : hS} {a : Nat} {e : va_E} (h : uni σ1 σ2 a = some e) : σ1 a = some e ∨ (σ1 a = none ∧ σ2 a = some e) := by
  unfold uni at h
  cases q : σ1 a with
  | some e1 => rw [q] at h; exact Or.inl h
  | none => rw [q] at h; exact Or.inr ⟨rfl, h⟩
theorem uni_comm {σ1 σ2 : hS} (hd : dis σ1 σ2) : uni σ1 σ2 = uni σ2 σ1 := funext fun a => by
  cases h1 : σ1 a with
  | some e =>
    have h2 : σ2 a = none := (hd a).resolve_left (by rw [h1]; exact fun z => nomatch z)
    rw [uni_l h1, uni_n h2, h1]
  | none =>
    rw [uni_n h1]
    cases h2 : σ2 a with
    | some e => rw [uni_l h2]
    | none => rw [uni_n h2, h1]
theorem dis.symm {σ1 σ2 : hS} (h : dis σ1 σ2) : dis σ2 σ1 := fun a => (h a).symm
def one (o : Nat) (e : va_E) : hS := fun a => if a = o then some e else none
theorem one_s {o : Nat} {e : va_E} : one o e o = some e := if_pos rfl
theorem one_n {o a : Nat} {e : va_E} (h : a ≠ o) : one o e a = none := if_neg h
theorem dis_one {σ1 : hS} {o : Nat} {e : va_E} (h : dis σ1 (one o e)) : σ1 o = none := (h o).resolve_right (by rw [one_s]; exact fun z => nomatch z)
theorem dis_one2 {σ1 : hS} {o : Nat} {e : va_E} (h : σ1 o = none) : dis σ1 (one o e) := fun a => by
  by_cases q : a = o
  · subst q; exact Or.inl h
  · exact Or.inr (one_n q)
theorem hup_one {σ1 : hS} {o : Nat} {e e2 : va_E} (h : σ1 o = none) : hup (uni σ1 (one o e)) o e2 = uni σ1 (one o e2) := funext fun a => by
  by_cases q : a = o
  · subst q
    rw [hup_s, uni_n h, one_s]
  · rw [hup_n q]
    cases h1 : σ1 a with
    | some e1 => rw [uni_l h1, uni_l h1]
    | none => rw [uni_n h1, uni_n h1, one_n q, one_n q]
/-- a callee runs on its own world, the other stays -/
theorem gM_fr {l : Launch} {dA : Nat → ClassId} {y : MethodName} {w0 : Cond} {rm : Room} {σ1 σ2 : hS} {av : List Value} {Post : Option Value → hS → Prop} {PX : String → hS → Prop} (h : gM l dA y w0 rm σ1 av Post PX) (hd : dis σ1 σ2) : gM l dA y w0 rm (uni σ1 σ2) av (fun v σ9 => ∃ σ', Post v σ' ∧ σ9 = uni σ' σ2 ∧ dis σ' σ2) (fun E σ9 => ∃ σ', PX E σ' ∧ σ9 = uni σ' σ2 ∧ dis σ' σ2) := by
  intro D sz
  have hsub : ∀ q, gA σ1 sz q → gA (uni σ1 σ2) sz q := fun q hq => hq.elim (fun z => Or.inl (by
    cases q1 : σ1 q with
    | none => exact absurd q1 z
    | some e => rw [uni_l q1]; exact fun y => nomatch y)) Or.inr
  have key : ∀ (st t : State) (σ' : hS), gB D dA (uni σ1 σ2) sz st → hP D σ' t.heap → (∀ a e, σ' a = some e → gA σ1 sz a) → va_F (gA σ1 sz) st t → hP D (uni σ' σ2) t.heap ∧ dis σ' σ2 ∧ (∀ a e, uni σ' σ2 a = some e → gA (uni σ1 σ2) sz a) ∧ va_F (gA (uni σ1 σ2) sz) st t := by
    intro st t σ' hB hP9 hdom hF
    obtain ⟨hP, -, hsz, -, -⟩ := hB
    have hout : ∀ a e, σ2 a = some e → σ1 a = none ∧ a < sz ∧ ¬ gA σ1 sz a := fun a e ha => by
      have h1 : σ1 a = none := (hd a).resolve_right (by rw [ha]; exact fun z => nomatch z)
      have h2 : a < sz := by rw [← hsz]; exact hP.lt (uni_r hd ha)
      exact ⟨h1, h2, fun z => z.elim (fun y => y h1) (fun y => absurd h2 (Nat.not_lt.mpr y))⟩
    have hdis : dis σ' σ2 := fun a => by
      cases q : σ2 a with
      | none => exact Or.inr rfl
      | some e =>
        refine Or.inl ?_
        cases q1 : σ' a with
        | none => rfl
        | some e1 => exact absurd (hdom a e1 q1) (hout a e q).2.2
    refine ⟨fun a e ha => ?_, hdis, fun a e ha => ?_, hF.1, fun q q1 q2 => hF.2 q q1 (fun z => q2 (hsub q z))⟩
    · rcases uni_some ha with q | ⟨-, q⟩
      · exact hP9 a e q
      · obtain ⟨g1, g2, g3⟩ := hout a e q
        exact (hP a e (uni_r hd q)).kept (hF.2 a (by rw [hsz]; exact g2) g3)
    · rcases uni_some ha with q | ⟨-, q⟩
      · exact hsub a (hdom a e q)
      · exact Or.inl (by rw [uni_r hd q]; exact fun y => nomatch y)
  refine MetFree.mono (h D sz) (fun a s hp => ?_) (fun _ _ _ _ _ _ => trivial) (fun a s o t hp hq => ?_)
  · obtain ⟨ha, hP, hK, hsz, hZ, hE⟩ := hp
    exact ⟨ha, fun a e q => hP a e (uni_l q), hK, hsz, hZ.narrow hsub, hE⟩
  · obtain ⟨ha, hB⟩ := hp
    rcases hq with ⟨⟨v, σ', ho, hpost, hP9, hdom, hF⟩, L, hL1, hL2⟩ | ⟨q, ho, E, ce, L, ⟨σ', hpost, hP9, hdom, hF⟩, x1, x2, x3, x4, x5, x6⟩
    · obtain ⟨k1, k2, k3, k4⟩ := key s t σ' hB hP9 hdom hF
      exact Or.inl ⟨⟨v, uni σ' σ2, ho, ⟨σ', hpost, rfl, k2⟩, k1, k3, k4⟩, L, hL1, fun q hq => hsub _ (hL2 q hq)⟩
    · obtain ⟨k1, k2, k3, k4⟩ := key s t σ' hB hP9 hdom hF
      exact Or.inr ⟨q, ho, E, ce, L, ⟨uni σ' σ2, ⟨σ', hpost, rfl, k2⟩, k1, k3, k4⟩, x1, x2, x3, x4, x5, fun z hz => hsub _ (x6 z hz)⟩
