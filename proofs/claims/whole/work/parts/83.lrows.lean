/-! the law: its script, its own rows -/
def LXt (Γ : gC) (b L : Nat) (xs : Nat → Int32) : Prop := match Γ with
  | (_, _, _, _, s, _, _, _, _, _, A, _, _, _) => va_X b L xs s s.heap ∧ b < s.heap.size ∧ ¬ A b
theorem nat32 {n : Nat} : Int32.ofNat n = iI (n : Int) := by
  show Int32.ofNat n = Int32.ofInt (n : Int)
  exact (Int32.ofInt_eq_ofNat).symm
theorem iI_back {x : Int32} : iI x.toInt = x := Int32.ofInt_toInt x
section GLAW
variable {l0 : Launch} {Γ : gC} {cc : ByteArray} {own : String} {nL : Nat} {R0 : Room} {σ : hS} {kc ks pc : Nat} {ls : gLs} {st : List Value} {b L : Nat} {xs : Nat → Int32}
theorem g_scr (cx : CX l0 Γ cc own nL R0) (hX : LXt Γ b L xs) (hL : L ≤ 3584) {i : Int} (hi : 0 ≤ i ∧ i < (L : Int)) (d : decode cc pc = .ok (.iaload, 1)) (k : G Γ σ kc ks (pc + 1) ls (.int (iI (xs i.toNat).toInt) :: st)) : G Γ σ kc ks pc ls (.int (iI i) :: .ref b :: st) := by
  obtain ⟨p, l, e, R, s, m, args, below, meth, c, A, D, dA, Q⟩ := Γ
  obtain ⟨hx, hbc, hml, hown, hts, hK, hAA, hlk, hl0, hR0, hZ, hE⟩ := cx
  obtain ⟨x1, x2, x3⟩ := hX
  intro H locs la hP hA hS hL'
  refine va_sld hx hbc x1 x2 x3 hS (iI_in hi (by omega)) d ?_
  rw [iI_cl (by omega), ← iI_back (x := xs i.toNat)]
  rw [iI_back]
  have := k H locs la hP hA hS hL'
  rw [iI_back] at this
  exact this
theorem g_slen (cx : CX l0 Γ cc own nL R0) (hX : LXt Γ b L xs) (d : decode cc pc = .ok (.arraylength, 1)) (k : G Γ σ kc ks (pc + 1) ls (.int (iI (L : Int)) :: st)) : G Γ σ kc ks pc ls (.ref b :: st) := by
  obtain ⟨p, l, e, R, s, m, args, below, meth, c, A, D, dA, Q⟩ := Γ
  obtain ⟨hx, hbc, hml, hown, hts, hK, hAA, hlk, hl0, hR0, hZ, hE⟩ := cx
  obtain ⟨x1, x2, x3⟩ := hX
  intro H locs la hP hA hS hL'
  refine va_slen hx hbc x1 x2 x3 hS d ?_
  rw [nat32]
  exact k H locs la hP hA hS hL'
end GLAW
theorem lg_self (x : Int64) : lg_cmp x x = iI 0 := by
  unfold lg_cmp
  rw [if_neg (by simp), if_pos rfl]
  rfl
theorem gM_monoX {l : Launch} {dA : Nat → ClassId} {y : MethodName} {w0 : Cond} {rm : Room} {σ : hS} {av : List Value} {Post Post' : Option Value → hS → Prop} {PX PX' : String → hS → Prop} (h : gM l dA y w0 rm σ av Post PX) (hP : ∀ v σ9, Post v σ9 → Post' v σ9) (hX : ∀ E σ9, PX E σ9 → PX' E σ9) : gM l dA y w0 rm σ av Post' PX' := by
  intro D sz
  refine MetFree.mono (h D sz) (fun a s hp => hp) (fun _ _ _ _ _ _ => trivial) (fun a s o t hp hq => ?_)
  rcases hq with ⟨⟨v, σ', ho, hpost, h4⟩, h5⟩ | ⟨q, ho, E, ce, L, ⟨σ', hpost, h4⟩, h5⟩
  · exact Or.inl ⟨⟨v, σ', ho, hP v σ' hpost, h4⟩, h5⟩
  · exact Or.inr ⟨q, ho, E, ce, L, ⟨σ', hX E σ' hpost, h4⟩, h5⟩
section WOPS3
variable {lc : Launch} {dA : Nat → ClassId} {cd : Nat → Nat} {σ1 : hS} {S : mS} {tm : Int} {o : Nat} {f0 : Nat → Int64}
theorem WS.x (hw : WS dA cd σ1 S tm) {x : Nat} (hx : x = cd 0) : ∃ fs, σ1 x = some (.inr (6, fs)) := by
  subst hx
  obtain ⟨C, R, n4, Q4, na, Qa, n, Q, hc, -⟩ := hw
  exact ⟨_, hc.x⟩
theorem w_clear {x : Nat} (hx : x = cd 0) (hw : WS dA cd σ1 S tm) (hoo : σ1 o = none) : gM lc dA yX6_clear (.code yX6_clear cX6_clear 1 none) { frames := 0, cells := 0, slots := 0, locals := 0 } (uni σ1 (one o (lo dA f0))) [.ref x] (fun v σ9 => v = none ∧ ∃ σa, σ9 = uni σa (one o (lo dA f0)) ∧ σa o = none ∧ WS dA cd σa (mw (mw S 0 0 0) 2 0 0) (tm + 200)) nX := by
  subst hx
  obtain ⟨C, R, n4, Q4, na, Qa, n, Q, hc, hm, h4, hfr, hs, hk, ht⟩ := hw
  refine gM_monoX (gM_fr (c_X6_clear hc) (dis_one2 hoo)) (fun v σ9 h => ?_) (fun E σ9 h => by obtain ⟨_, h, _⟩ := h; exact h)
  obtain ⟨σa, ⟨rfl, k1, k2⟩, rfl, hd⟩ := h
  refine ⟨rfl, σa, rfl, dis_one hd, _, R, n4, Q4, na, Qa, n, Q, k1, sm_clear hm, h4.fr k2, hfr.fr k2, fun i hi => ?_, K3_k hk (fun k a _ => mw_ne k (by omega)), ?_⟩
  · rw [mw_s] at hi; omega
  · rw [mw_k (by decide), mw_k (by decide)]; omega
theorem w_tries {x : Nat} (hx : x = cd 0) (hw : WS dA cd σ1 S tm) (hoo : σ1 o = none) : gM lc dA yX6_tries (.code yX6_tries cX6_tries 1 (some .int)) { frames := 0, cells := 0, slots := 0, locals := 0 } (uni σ1 (one o (lo dA f0))) [.ref x] (fun v σ9 => v = some (.int (iI (S 13 0))) ∧ ∃ σa, σ9 = uni σa (one o (lo dA f0)) ∧ σa o = none ∧ WS dA cd σa (mw S 0 0 0) (tm + 200)) nX := by
  subst hx
  obtain ⟨C, R, n4, Q4, na, Qa, n, Q, hc, hm, h4, hfr, hs, hk, ht⟩ := hw
  refine gM_monoX (gM_fr (c_X6_tries hc) (dis_one2 hoo)) (fun v σ9 h => ?_) (fun E σ9 h => by obtain ⟨_, h, _⟩ := h; exact h)
  obtain ⟨σa, ⟨rfl, k1, k2⟩, rfl, hd⟩ := h
  exact ⟨by rw [sm_tries hm], σa, rfl, dis_one hd, WS_1 k1 k2 (SM_0 hm _) h4 hfr hs rw0.s0 hk ht⟩
end WOPS3
