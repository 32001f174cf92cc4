/-! try and catch -/
def gTab (Γ : gC) (hh : List (Nat × Nat × Nat × Nat)) : Prop := match Γ with
  | (_, _, _, _, _, _, _, _, _, c, _, _, _, _) => c.exceptionTable.toList = tableOf hh
theorem gM_bodyH {l : Launch} {dA : Nat → ClassId} {y : MethodName} {cc : ByteArray} {nL : Nat} {ret : Option FieldType} {hh : List (Nat × Nat × Nat × Nat)} {rm : Room} {σ : hS} {av : List Value} {Post : Option Value → hS → Prop} {PX : String → hS → Prop} (hy : plainName y.cls = true) (hn : ∀ v ∈ av, v.category = 1) (hlen : av.length ≤ nL)
    (body : ∀ Γ : gC, gdA Γ = dA → CX l Γ cc y.cls nL rm → RX Γ ret rm Post PX → gTab Γ hh → G Γ σ 0 0 0 (av.map some ++ List.replicate (nL - av.length) none) []) : gM l dA y (.codeWith y cc nL ret hh) rm σ av Post PX := by
  intro D sz
  refine vx_ofWH (ws' := TB) hy rfl ?_
  intro p e s m args below meth c s₁ B hml hv
  obtain ⟨rfl, hP, hK, hsz, hZ, hE⟩ := hv
  subst hsz
  have hown : s.vm.findClass y.cls = some m.cls := findClass_of_methodNamed B.named
  have hts0 := atoms_spec B.pre
  have hxt : c.exceptionTable.toList = tableOf hh := vx_table (x := y) B (hts0 _ List.mem_cons_self)
  rw [lg_entry_eq]
  have hb := body (p, l, e, (headSpec (Cond.codeWith y cc nL ret hh :: TB) rm).room, s, m, av.toArray, below, meth, c, gA σ s.heap.size, D, dA, vx_MQ below (gQc D σ s.heap.size Post) (gXc D σ s.heap.size PX) av.toArray s rm.cells rm.slots (gA σ s.heap.size))
    rfl ⟨B.exec, B.bytes, hml, hown, fun w hw => hts0 w (List.mem_cons_of_mem _ hw), hK, fun q h => Or.inr h, B.notSynchronized, rfl, rfl, hZ, hE⟩ ⟨B.returns, σ, s.heap.size, rfl, rfl⟩ hxt
  exact hb s.heap [] _ hP (fun a e h => Or.inl (by rw [h]; exact fun q => by cases q)) va_S.rf (gL_entry hn hlen)
section GCATCH
variable {l0 : Launch} {Γ : gC} {cc : ByteArray} {own : String} {nL : Nat} {R0 : Room} {σ : hS} {kc ks pc : Nat} {ls : gLs} {st : List Value} {hh : List (Nat × Nat × Nat × Nat)}
theorem gx_catch {E : String} (cx : CX l0 Γ cc own nL R0) (tx : gTab Γ hh) (pre : List (Nat × Nat × Nat × Nat)) (lo hi h t : Nat) (suf : List (Nat × Nat × Nat × Nat)) (hs : hh = pre ++ (lo, hi, h, t) :: suf) (hc : lo ≤ pc ∧ pc < hi)
    (hpass : ∀ z ∈ pre, z.2.2.2 ≠ 0 ∧ ∃ nm : String, nm ∈ gExc ∧ E ≠ nm ∧ Cond.classLink own z.2.2.2 nm ∈ TB) (h0 : t ≠ 0) (hlink : Cond.classLink own t E ∈ TB) (hE : E ∈ gExc)
    (kk : ∀ q : Nat, G Γ σ kc ks h ls [.ref q]) : GX Γ σ kc ks pc ls st E := by
  obtain ⟨p, l, e, R, s, m, args, below, meth, c, A, D, dA, Q⟩ := Γ
  obtain ⟨hx, hbc, hml, hown, hts, hK, hAA, hlk, hl0, hR0, hZ, hE2⟩ := cx
  have tx : c.exceptionTable.toList = tableOf hh := tx
  intro H locs la q ce hP hA hS hL h1 h2 h3
  refine vx_catch (name := E) hown (tableOf pre) ⟨lo, hi, h, t⟩ (tableOf suf) (by rw [tx, hs]; simp [tableOf]) (fun z hz => ?_) (by simp [covers, hc.1, hc.2]) h0 (hts _ hlink) ((hE2.1 E hE).use rfl) h1 h2 h3 (kk q H locs la hP hA hS hL)
  obtain ⟨w, hw, rfl⟩ := List.mem_map.mp hz
  obtain ⟨a, nm, b1, b2, b3⟩ := hpass w hw
  exact Or.inr ⟨a, nm, hts _ b3, hE2.2.2.2.2.2.1 E hE nm b1 b2⟩
end GCATCH
theorem cl_13 : Cond.classLink RL 13 E_112 ∈ TB := TB_at 164 (by decide +kernel) (by decide +kernel)
theorem cl_15 : Cond.classLink RL 15 E_44 ∈ TB := TB_at 165 (by decide +kernel) (by decide +kernel)
theorem cl_21 : Cond.classLink RL 21 E_70 ∈ TB := TB_at 264 (by decide +kernel) (by decide +kernel)
theorem cl_30 : Cond.classLink RL 30 E_208 ∈ TB := TB_at 410 (by decide +kernel) (by decide +kernel)
