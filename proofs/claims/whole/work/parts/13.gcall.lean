/-! G: calls, throws -/
theorem goodIn_TB {ws : List Cond} (h : ∀ w ∈ ws, w ∈ TB) : GoodIn TB ws := fun w hw => TB_good w (h w hw)
/-- a name that a call may bear, and how many arguments it takes -/
def gY (y : MethodName) (n : Nat) : Prop := y.cls ≠ "java/lang/invoke/MethodHandle" ∧ y.cls ≠ "java/lang/invoke/VarHandle" ∧ (parseMethodDescriptor y.desc).map (fun d => d.parameters.length) = some n
/-- the callee's room within the caller's -/
def gRm (rm R0 : Room) (maxL kc ks : Nat) : Prop := (rm.frames + 1 ≤ R0.frames ∧ 8 + (maxL + 11) + rm.locals ≤ R0.locals) ∧ kc + rm.cells ≤ R0.cells ∧ ks + rm.slots ≤ R0.slots
section GCALL
variable {p : Program} {l : Launch} {e : Env} {R : Room} {s : State} {m : MethodId} {args : Array Value} {below : List Frame} {meth : Method} {c : Code} {A : Nat → Prop} {D : va_G} {dA : Nat → ClassId} {Q : State → Prop}
/-- what a run says, said of G -/
theorem g_ofRun {σ : hS} {kc ks pc mc ms : Nat} {ls : gLs} {la : Array Slot} {rest st0 : List Value} {H : Heap} {locs : List Loc} {Post : Option Value → hS → Prop} {PX : String → hS → Prop} {a : Array Value}
    (hr : vx_Run p l e R s m args below meth c H locs kc ks mc ms (F0 m pc la st0) rest (gQc D σ H.size Post a) (gXc D σ H.size PX) (gA σ H.size))
    (hAA : ∀ q, s.heap.size ≤ q → A q) (hA : ∀ a e, σ a = some e → A a) (hS : va_S A s.heap H locs) (hL : gL la ls)
    (kN : ∀ v σ', Post v σ' → G (p, l, e, R, s, m, args, below, meth, c, A, D, dA, Q) σ' (kc + mc) (ks + ms) (pc + 3) ls (v.toList ++ rest))
    (kX : ∀ E σ', PX E σ' → GX (p, l, e, R, s, m, args, below, meth, c, A, D, dA, Q) σ' (kc + mc) (ks + ms) pc ls rest E) : W p l e R s m args below meth c H locs kc ks Q (F0 m pc la st0) := by
  intro T hT X
  have hsub : ∀ q, gA σ H.size q → A q := fun q hq => hq.elim (fun h => by
    cases hs : σ q with
    | none => exact absurd hs h
    | some e0 => exact hA q e0 hs) (fun h => hAA q (Nat.le_trans hS.1 h))
  rcases hr T hT X with ⟨v, st₀, t, T', L, h0, X', hL', e1, e2, ⟨v', σ', ho, hp, hP', hdom, hF⟩, st⟩ | ⟨q, st₀, t, T', L, E, ce, h0, X', hL', e1, e2, ⟨σ', hp, hP', hdom, hF⟩, hce, hcv, hcl, st⟩
  · cases ho
    obtain ⟨k1, k2, k3⟩ := vx_keep h0 e1 hS (fun q _ h => hsub q h) hsub hL' hF
    obtain ⟨t2, a1, b1⟩ := kN v σ' hp T'.heap (locs ++ L) la (by rw [e1]; exact hP') (fun a e h => hsub a (hdom a e h)) k3 hL T' rfl X'
    exact ⟨t2, st t2 a1, b1⟩
  · obtain ⟨k1, k2, k3⟩ := vx_keep h0 e1 hS (fun q _ h => hsub q h) hsub hL' hF
    obtain ⟨t2, a1, b1⟩ := kX E σ' hp T'.heap (locs ++ L) la q ce (by rw [e1]; exact hP') (fun a e h => hsub a (hdom a e h)) k3 hL (by rw [e1]; exact hce) hcv hcl T' rfl X'
    exact ⟨t2, st.trans a1, b1⟩
/-- a callee's start holds -/
theorem g_pre {σ : hS} {H : Heap} {locs : List Loc} {av : List Value} (hK : va_K D gcl (tyL dA) s) (hZ : gZ A s s.heap) (hE : gE s) (hP : hP D σ H) (hAA : ∀ q, s.heap.size ≤ q → A q) (hA : ∀ a e, σ a = some e → A a) (hS : va_S A s.heap H locs) : ∀ U : State, U.heap = H → s.WarmedH U.vm → va_Pc av (gB D dA σ H.size) av.toArray U := by
  intro U hU hW
  have hsub : ∀ q, gA σ H.size q → A q := fun q hq => hq.elim (fun h => by
    cases hs : σ q with
    | none => exact absurd hs h
    | some e0 => exact hA q e0 hs) (fun h => hAA q (Nat.le_trans hS.1 h))
  exact ⟨rfl, by rw [hU]; exact hP, va_K.moved hW.alike hK, by rw [hU], by rw [hU]; exact ((hZ.moved hW.alike).kept hS.2.1).narrow hsub, hE.warm hW⟩
end GCALL
section GCALLS
variable {l0 : Launch} {Γ : gC} {cc : ByteArray} {own : String} {nL : Nat} {R0 : Room} {σ : hS} {kc ks pc : Nat} {ls : gLs} {st rest As : List Value} {idx : Nat} {y : MethodName} {cc' : ByteArray} {nL' : Nat} {ret' : Option FieldType} {rm : Room} {Post : Option Value → hS → Prop} {PX : String → hS → Prop}
theorem g_callV (cx : CX l0 Γ cc own nL R0) {b ci : Nat} {fs : List Value} (hl : gV own idx y (.code y cc' nL' ret')) (hM : gM l0 (gdA Γ) y (.code y cc' nL' ret') rm σ (.ref b :: As) Post PX) (hb : σ b = some (.inr (ci, fs))) (hci : (gcl[ci]?).map (fun r => r.1) = some y.cls) (hy : gY y As.length) (hR : gRm rm R0 nL' kc ks) (hlen : ls.length = nL) (hW : (rest.map fun v => v.category).sum ≤ 8) (hst : st = As.reverse ++ .ref b :: rest) (d : decode cc pc = .ok (.invokevirtual idx, 3))
    (kX : ∀ E σ', PX E σ' → GX Γ σ' (kc + rm.cells) (ks + rm.slots) pc ls rest E)
    (kN : ∀ v σ', Post v σ' → G Γ σ' (kc + rm.cells) (ks + rm.slots) (pc + 3) ls (v.toList ++ rest)) : G Γ σ kc ks pc ls st := by
  obtain ⟨p, l, e, R, s, m, args, below, meth, c, A, D, dA, Q⟩ := Γ
  obtain ⟨hx, hbc, hml, hown, hts, hK, hAA, hlk, hl0, hR0, hZ, hE⟩ := cx
  subst hl0; subst hR0
  intro H locs la hP hA hS hL
  obtain ⟨l1, l2, l3, l4, l5⟩ := hl
  obtain ⟨r, hr, hrn⟩ := Option.map_eq_some_iff.mp hci
  have hG : GoodIn TB (wsV own idx y.cls y (.code y cc' nL' ret' :: TB)) := goodIn_TB (fun w hw => by
    rcases List.mem_append.mp hw with h | h
    · simp only [List.mem_cons, List.not_mem_nil, or_false] at h
      rcases h with rfl | rfl | rfl | rfl <;> assumption
    · rcases List.mem_cons.mp h with rfl | h
      · exact l5
      · exact h)
  have hrecv : ∃ cellB : Cell, H[b]? = some cellB ∧ cellB.vm.isStatics = false ∧ s.vm.findClass y.cls = some cellB.cls := by
    rw [← hrn]
    exact va_recv hK (hP.one hb) hr (q0 := 0) rfl
  exact g_ofRun (vx_runV (As := As) (rest := rest) (nL := nL) (g := F0 m pc la st) ⟨hx, hbc, hml, hown, hts⟩ (hM D H.size) (cwV As.length hts hG rfl rfl rfl ⟨rfl, hy⟩ hR.1) ⟨gPc_blind, hrecv, g_pre hK hZ hE hP hAA hA hS⟩ rfl rfl (by rw [← hlen]; exact hL.1) hst (lv_room hW) d hR.2) hAA hA hS hL kN kX
theorem g_callS (cx : CX l0 Γ cc own nL R0) (hl : gS own idx y (.code y cc' nL' ret')) (hM : gM l0 (gdA Γ) y (.code y cc' nL' ret') rm σ As Post PX) (hy : gY y As.length) (hR : gRm rm R0 nL' kc ks) (hlen : ls.length = nL) (hW : (rest.map fun v => v.category).sum ≤ 8) (hst : st = As.reverse ++ rest) (d : decode cc pc = .ok (.invokestatic idx, 3))
    (kX : ∀ E σ', PX E σ' → GX Γ σ' (kc + rm.cells) (ks + rm.slots) pc ls rest E)
    (kN : ∀ v σ', Post v σ' → G Γ σ' (kc + rm.cells) (ks + rm.slots) (pc + 3) ls (v.toList ++ rest)) : G Γ σ kc ks pc ls st := by
  obtain ⟨p, l, e, R, s, m, args, below, meth, c, A, D, dA, Q⟩ := Γ
  obtain ⟨hx, hbc, hml, hown, hts, hK, hAA, hlk, hl0, hR0, hZ, hE⟩ := cx
  subst hl0; subst hR0
  intro H locs la hP hA hS hL
  obtain ⟨l1, l2, l4, l5⟩ := hl
  have hG : GoodIn TB (va_wsS own idx y (.code y cc' nL' ret' :: TB)) := goodIn_TB (fun w hw => by
    rcases List.mem_append.mp hw with h | h
    · simp only [List.mem_cons, List.not_mem_nil, or_false] at h
      rcases h with rfl | rfl | rfl <;> assumption
    · rcases List.mem_cons.mp h with rfl | h
      · exact l5
      · exact h)
  exact g_ofRun (vx_runS (As := As) (rest := rest) (nL := nL) (g := F0 m pc la st) ⟨hx, hbc, hml, hown, hts⟩ (hM D H.size) (va_cwS As.length hts hG rfl rfl rfl hy hR.1) ⟨gPc_blind, g_pre hK hZ hE hP hAA hA hS⟩ rfl rfl (by rw [← hlen]; exact hL.1) hst (lv_room hW) d hR.2) hAA hA hS hL kN kX
theorem g_callSX (cx : CX l0 Γ cc own nL R0) {hh : List (Nat × Nat × Nat × Nat)} (hl : gS own idx y (.codeWith y cc' nL' ret' hh)) (hM : gM l0 (gdA Γ) y (.codeWith y cc' nL' ret' hh) rm σ As Post PX) (hy : gY y As.length) (hR : gRm rm R0 nL' kc ks) (hlen : ls.length = nL) (hW : (rest.map fun v => v.category).sum ≤ 8) (hst : st = As.reverse ++ rest) (d : decode cc pc = .ok (.invokestatic idx, 3))
    (kX : ∀ E σ', PX E σ' → GX Γ σ' (kc + rm.cells) (ks + rm.slots) pc ls rest E)
    (kN : ∀ v σ', Post v σ' → G Γ σ' (kc + rm.cells) (ks + rm.slots) (pc + 3) ls (v.toList ++ rest)) : G Γ σ kc ks pc ls st := by
  obtain ⟨p, l, e, R, s, m, args, below, meth, c, A, D, dA, Q⟩ := Γ
  obtain ⟨hx, hbc, hml, hown, hts, hK, hAA, hlk, hl0, hR0, hZ, hE⟩ := cx
  subst hl0; subst hR0
  intro H locs la hP hA hS hL
  obtain ⟨l1, l2, l4, l5⟩ := hl
  have hG : GoodIn TB (va_wsS own idx y (.codeWith y cc' nL' ret' hh :: TB)) := goodIn_TB (fun w hw => by
    rcases List.mem_append.mp hw with h | h
    · simp only [List.mem_cons, List.not_mem_nil, or_false] at h
      rcases h with rfl | rfl | rfl <;> assumption
    · rcases List.mem_cons.mp h with rfl | h
      · exact l5
      · exact h)
  exact g_ofRun (vx_runSX (As := As) (rest := rest) (nL := nL) (g := F0 m pc la st) ⟨hx, hbc, hml, hown, hts⟩ (hM D H.size) (vx_cwSW As.length hts hG rfl rfl rfl hy hR.1) ⟨gPc_blind, g_pre hK hZ hE hP hAA hA hS⟩ rfl rfl (by rw [← hlen]; exact hL.1) hst (lv_room hW) d hR.2) hAA hA hS hL kN kX
theorem g_callI (cx : CX l0 Γ cc own nL R0) {b : Nat} (hl : gI own idx y (.code y cc' nL' none)) (hM : gM l0 (gdA Γ) y (.code y cc' nL' none) rm σ (.ref b :: As) Post PX) (hin : y.name = "<init>") (hy : gY y As.length) (hR : gRm rm R0 nL' kc ks) (hlen : ls.length = nL) (hW : (rest.map fun v => v.category).sum ≤ 8) (hst : st = As.reverse ++ .ref b :: rest) (d : decode cc pc = .ok (.invokespecial idx, 3))
    (kX : ∀ E σ', PX E σ' → GX Γ σ' (kc + rm.cells) (ks + rm.slots) pc ls rest E)
    (kN : ∀ v σ', Post v σ' → G Γ σ' (kc + rm.cells) (ks + rm.slots) (pc + 3) ls (v.toList ++ rest)) : G Γ σ kc ks pc ls st := by
  obtain ⟨p, l, e, R, s, m, args, below, meth, c, A, D, dA, Q⟩ := Γ
  obtain ⟨hx, hbc, hml, hown, hts, hK, hAA, hlk, hl0, hR0, hZ, hE⟩ := cx
  subst hl0; subst hR0
  intro H locs la hP hA hS hL
  obtain ⟨l1, l2, l4, l5⟩ := hl
  have hG : GoodIn TB (.code y cc' nL' none :: TB) := goodIn_TB (fun w hw => by
    rcases List.mem_cons.mp hw with rfl | h
    · exact l5
    · exact h)
  exact g_ofRun (vx_runI (As := As) (rest := rest) (nL := nL) (g := F0 m pc la st) ⟨hx, hbc, hml, hown, hts⟩ (hM D H.size) (cwI As.length hts hG rfl rfl rfl (hts _ l4) (hts _ l1) (hts _ l2) hin hy hR.1) ⟨gPc_blind, g_pre hK hZ hE hP hAA hA hS⟩ rfl rfl (by rw [← hlen]; exact hL.1) hst (lv_room hW) d hR.2) hAA hA hS hL kN kX
/-- the private constructor of a nest mate, called from GatedLinks -/
theorem g_callIN (cx : CX l0 Γ cc RX6 nL R0) {b : Nat} (hl : (idx, y) ∈ gNst) (hl2 : Cond.instanceMethod y ∈ TB ∧ Cond.initialized y.cls ∈ TB ∧ Cond.code y cc' nL' none ∈ TB) (hM : gM l0 (gdA Γ) y (.code y cc' nL' none) rm σ (.ref b :: As) Post PX) (hin : y.name = "<init>") (hy : gY y As.length) (hR : gRm rm R0 nL' kc ks) (hlen : ls.length = nL) (hW : (rest.map fun v => v.category).sum ≤ 8) (hst : st = As.reverse ++ .ref b :: rest) (d : decode cc pc = .ok (.invokespecial idx, 3))
    (kX : ∀ E σ', PX E σ' → GX Γ σ' (kc + rm.cells) (ks + rm.slots) pc ls rest E)
    (kN : ∀ v σ', Post v σ' → G Γ σ' (kc + rm.cells) (ks + rm.slots) (pc + 3) ls (v.toList ++ rest)) : G Γ σ kc ks pc ls st := by
  obtain ⟨p, l, e, R, s, m, args, below, meth, c, A, D, dA, Q⟩ := Γ
  obtain ⟨hx, hbc, hml, hown, hts, hK, hAA, hlk, hl0, hR0, hZ, hE⟩ := cx
  subst hl0; subst hR0
  intro H locs la hP hA hS hL
  obtain ⟨l2, l4, l5⟩ := hl2
  have hG : GoodIn TB (.code y cc' nL' none :: TB) := goodIn_TB (fun w hw => by
    rcases List.mem_cons.mp hw with rfl | h
    · exact l5
    · exact h)
  exact g_ofRun (vx_runIN (As := As) (rest := rest) (nL := nL) (g := F0 m pc la st) ⟨hx, hbc, hml, hown, hts⟩ (hM D H.size) ⟨va_cnB As.length hts hG rfl rfl rfl (hE.2.2.1 _ hl) (hts _ l4) hy hR.1, hin, hts _ l2⟩ ⟨gPc_blind, g_pre hK hZ hE hP hAA hA hS⟩ rfl rfl (by rw [← hlen]; exact hL.1) hst (lv_room hW) d hR.2) hAA hA hS hL kN kX
/-- not caught here -/
theorem gx_out {E : String} {ret : Option FieldType} (cx : CX l0 Γ cc own nL R0) (rx : RX Γ ret rm Post PX) (nx : NX Γ) (hk : kc ≤ rm.cells) (hs : ks ≤ rm.slots) (hp : PX E σ) : GX Γ σ kc ks pc ls st E := by
  obtain ⟨p, l, e, R, s, m, args, below, meth, c, A, D, dA, Q⟩ := Γ
  obtain ⟨hx, hbc, hml, hown, hts, hK, hAA, hlk, hl0, hR0, hZ, hE⟩ := cx
  obtain ⟨hr, σ0, sz, rfl, rfl⟩ := rx
  intro H locs la q ce hP hA hS hL h1 h2 h3
  exact vx_out (fun x hx => (nx x hx).elim) hlk h1 h2 h3 (fun t ht _ => ⟨σ, hp, by rw [ht]; exact hP, hA, hS.F ht⟩) (fun z hz => hS.2.2 z hz) hk hs
end GCALLS
