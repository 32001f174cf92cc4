/-! G: throws, catches, new objects and arrays, switches -/
section GMORE
variable {l0 : Launch} {Γ : gC} {cc : ByteArray} {own : String} {nL : Nat} {R0 : Room} {σ : hS} {kc ks pc : Nat} {ls : gLs} {st : List Value} {rm : Room} {Post : Option Value → hS → Prop} {PX : String → hS → Prop}
abbrev gNames : List String := ["java/lang/RuntimeException", "java/lang/Exception"]
def gThr (ik ic : Nat) (cls : String) : Prop := Cond.classLink RX6 ik cls ∈ TB ∧ Cond.initialized cls ∈ TB ∧ (∀ w ∈ (vx_atS RX6 ic cls gNames).filter goodWord, w ∈ TB) ∧ (vx_atS RX6 ic cls gNames).all (fun w => goodWord w || (decide (w = .castable cls cls) || decide (w ∈ gDec.map Cond.declares))) = true ∧ Bundle.fit cls = true
theorem g_throwS {ret : Option FieldType} (cx : CX l0 Γ cc RX6 nL R0) (hst : l0.stackTraces = false) (rx : RX Γ ret rm Post PX) (nx : NX Γ) (hlen : ls.length = nL) {cls text : String} {ik is ic : Nat} (hcls : cls ∈ gExc) (hstr : (is, text) ∈ gStr) (ht : gThr ik ic cls)
    (d0 : decode cc pc = .ok (.new ik, 3)) (d3 : decode cc (pc + 3) = .ok (.dup, 1)) (d4 : decode cc (pc + 4) = .ok (.ldc is, 2)) (d6 : decode cc (pc + 6) = .ok (.invokespecial ic, 3)) (d9 : decode cc (pc + 9) = .ok (.athrow, 1))
    (hR : 5 < R0.frames ∧ (st.map fun v => v.category).sum + 82 ≤ R0.locals ∧ kc + 1 ≤ R0.cells ∧ ks + 6 ≤ R0.slots) (hk : kc + 1 ≤ rm.cells ∧ ks + 6 ≤ rm.slots) (hp : PX cls σ) : G Γ σ kc ks pc ls st := by
  obtain ⟨p, l, e, R, s, m, args, below, meth, c, A, D, dA, Q⟩ := Γ
  obtain ⟨hx, hbc, hml, hown, hts, hK, hAA, hlk, hl0, hR0, hZ, hE⟩ := cx
  subst hl0; subst hR0
  obtain ⟨hr, σ0, sz, rfl, rfl⟩ := rx
  intro H locs la hP hA hS hL
  obtain ⟨sa, hsa⟩ := hE.2.1 _ hstr
  obtain ⟨t1, t2, t3, t4, t5⟩ := ht
  have hcast : (Cond.castable cls cls).before args s = true := (hE.1 _ hcls).use rfl
  have hall : ∀ w ∈ vx_atS RX6 ic cls gNames, goodWord w = true ∨ w = .castable cls cls ∨ ∃ x, x ∈ gDec ∧ w = .declares x := fun w hw => by
    have h9 := List.all_eq_true.mp t4 w hw
    simp only [Bool.or_eq_true, decide_eq_true_eq, List.mem_map] at h9
    rcases h9 with h9 | h9 | ⟨x, h8, h9⟩
    · exact Or.inl h9
    · exact Or.inr (Or.inl h9)
    · exact Or.inr (Or.inr ⟨x, h8, h9.symm⟩)
  exact vx_throwS (names := gNames) (sa := sa) hx hbc hst hown t5 (by decide +kernel) (hts _ t1) (hts _ t2) hsa
    (fun w hw => (hall w hw).elim (fun h => hts _ (t3 w (List.mem_filter.mpr ⟨hw, h⟩))) (fun h => h.elim (fun h => by rw [h]; exact hcast) (fun ⟨x, h8, h9⟩ => by rw [h9]; exact (hE.2.2.2.2.2.2 x h8).use rfl)))
    (fun w hw => by
      rcases List.mem_cons.mp hw with rfl | hw
      · rfl
      · rcases List.mem_cons.mp hw with rfl | hw
        · rfl
        · rcases hall w hw with h | h | ⟨x, -, h⟩
          · unfold vx_ot; rw [h]; simp
          · rw [h]; rfl
          · rw [h]; rfl)
    hZ.1 hZ.2 hS (by rw [hml, ← hlen]; exact hL.1) d0 d3 d4 d6 d9 (fun x hx => (nx x hx).elim) hR.1 hR.2.1 hR.2.2.1 hR.2.2.2 hlk
    (fun t ha hz hq => ⟨σ, hp, fun a e he => (hP a e he).kept (hq a (hP.lt he)), hA, Nat.le_trans hS.1 hz, fun q h1 h2 => (hq q (Nat.lt_of_lt_of_le h1 hS.1)).trans (hS.2.1 q h1 h2)⟩)
    (fun z hz => hS.2.2 z hz) hk.1 hk.2
theorem g_zast {a N : Nat} {f : Nat → Int32} {i x : Int32} (cx : CX l0 Γ cc own nL R0) (hσ : σ a = some (.inl (gdA Γ 1, N, .inl f))) (hin : vp_in i N) (hx01 : narrow .boolean (.int x) = .int x) (d : decode cc pc = .ok (.bastore, 1)) (kk : G Γ (hup σ a (.inl (gdA Γ 1, N, .inl (upd f i.toNatClampNeg x)))) kc ks (pc + 1) ls st) : G Γ σ kc ks pc ls (.int x :: .int i :: .ref a :: st) := by
  obtain ⟨p, l, e, R, s, m, args, below, meth, c, A, D, dA, Q⟩ := Γ
  obtain ⟨hx, hb, hml, hown, hts, hK, hAA, hlk, hl0, hR0, hZ, hE⟩ := cx
  intro H locs la hP hA hS hL
  refine W.zast hx hb (hP a _ hσ) ((hK.2 1 _ rfl).1 N (fun j => .int (f j))) (fun q => by cases q) (by show ¬ (i < 0 ∨ (arrV _ _ _).slots.size ≤ _); rw [arrV_size]; exact hin) rfl rfl d fun H1 e z oq => ?_
  refine kk H1 _ la (hP.put ?_ oq) (g_hA hA hσ) (hS.put z oq (hA a _ hσ)) hL
  show H1[a]? = some (vp_cell _ _)
  rw [e]
  rw [vp_cell_i, vp_cell_i, arrV_store]
  congr 2
  funext q
  by_cases hq : q = i.toNatClampNeg
  · subst hq
    simp [updV, upd, hx01]
  · simp [updV, upd, hq]
/-- int[][] -/
theorem g_aald6 {a N : Nat} {f : Nat → Option Nat} {i : Int32} (cx : CX l0 Γ cc own nL R0) (hσ : σ a = some (.inl (gdA Γ 6, N, .inr (.inr (.inr (.inr f)))))) (hin : vp_in i N) (d : decode cc pc = .ok (.aaload, 1)) (kk : G Γ σ kc ks (pc + 1) ls (va_rf (f i.toNatClampNeg) :: st)) : G Γ σ kc ks pc ls (.int i :: .ref a :: st) := by
  obtain ⟨p, l, e, R, s, m, args, below, meth, c, A, D, dA, Q⟩ := Γ
  obtain ⟨hx, hb, hml, hown, hts, hK, hAA, hlk, hl0, hR0, hZ, hE⟩ := cx
  intro H locs la hP hA hS hL
  have hlt : i.toNatClampNeg < N := Nat.not_le.mp fun q => hin (Or.inr q)
  exact W.aald (v := va_rf (f i.toNatClampNeg)) (ty := .array .int) hx hb (hP a _ hσ) ((hK.2 6 _ rfl).1 N (fun j => va_rf (f j))) rfl (fun q => by cases q) (by show ¬ (i < 0 ∨ (arrV _ _ _).slots.size ≤ _); rw [arrV_size]; exact hin) (by show (arrV _ _ _).slots[_]? = _; rw [arrV_read _ _ hlt]) rfl rfl d (kk H locs la hP hA hS hL)
theorem g_aast {a N v t ci : Nat} {r : vw_C} {vs : List Value} {f : Nat → Option Nat} {i : Int32} (cx : CX l0 Γ cc own nL R0) (hσ : σ a = some (.inl (gdA Γ t, N, .inr (.inr (.inr (.inr f)))))) (hv : σ v = some (.inr (ci, vs))) (hc : gcl[ci]? = some r) (ht : (tyL (gdA Γ))[t]? = some (gdA Γ t, .object r.1)) (hin : vp_in i N) (d : decode cc pc = .ok (.aastore, 1)) (kk : G Γ (hup σ a (.inl (gdA Γ t, N, .inr (.inr (.inr (.inr (va_up f i.toNatClampNeg (some v)))))))) kc ks (pc + 1) ls st) : G Γ σ kc ks pc ls (.ref v :: .int i :: .ref a :: st) := by
  obtain ⟨p, l, e, R, s, m, args, below, meth, c, A, D, dA, Q⟩ := Γ
  obtain ⟨hx, hb, hml, hown, hts, hK, hAA, hlk, hl0, hR0, hZ, hE⟩ := cx
  intro H locs la hP hA hS hL
  have hlt : i.toNatClampNeg < N := Nat.not_le.mp fun q => hin (Or.inr q)
  have h0 : ¬ i < 0 := fun q => hin (Or.inl q)
  obtain ⟨r', hr', cellV, g1, g2, g3, -⟩ := hP v _ hv
  have hcls := (hK.1 ci r hc).2
  obtain ⟨kA, comp, k1, k2, k3, -⟩ := (hK.2 t _ ht).2
  have hcomp : comp = D.1 ci := Option.some.inj (k3.symm.trans hcls.1)
  subst hcomp
  obtain ⟨kC, hkC, -⟩ := hcls.2
  refine W.aast hx hb (hP a _ hσ) (fun q h => by cases h) (fun h => by cases h) k1 k2 rfl hkC ⟨h0, by show _ < (arrV _ _ _).slots.size; rw [arrV_size]; exact hlt⟩ g1 (fun q h => by rw [g3] at h; cases h) (by rw [g2]; exact hkC) (by rw [g2]; exact va_assign hcls) rfl rfl d fun H1 e z oq => ?_
  refine kk H1 _ la (hP.put ?_ oq) (g_hA hA hσ) (hS.put z oq (hA a _ hσ)) hL
  show H1[a]? = some (vp_cell _ _)
  rw [e]
  rw [vp_cell_q, vp_cell_q, arrV_store]
  congr 2
  funext q
  by_cases hq : q = i.toNatClampNeg
  · subst hq
    simp [updV, va_up, va_rf]
  · simp [updV, va_up, hq]
theorem g_hAn {A : Nat → Prop} {H0 H : Heap} {locs : List Loc} {e1 : va_E} (hA : ∀ b e, σ b = some e → A b) (hAA : ∀ q, H0.size ≤ q → A q) (hS : va_S A H0 H locs) : ∀ b e, hup σ H.size e1 b = some e → A b := fun b e hb => by
  by_cases hba : b = H.size
  · subst hba; exact hAA _ hS.1
  · rw [hup_n hba] at hb; exact hA b _ hb
theorem g_fresh {D : va_G} {H : Heap} (hP : hP D σ H) : σ H.size = none := by
  cases h : σ H.size with
  | none => rfl
  | some e => exact absurd (hP.lt h) (Nat.lt_irrefl _)
theorem g_new {idx ci : Nat} {r : vw_C} {fs : List Value} (cx : CX l0 Γ cc own nL R0) (hr : gcl[ci]? = some r) (hw : Cond.classLink own idx r.1 ∈ TB) (hi : Cond.instantiable r.1 r.2.2 ∈ TB) (hn : Cond.initialized r.1 ∈ TB) (hfs : ∀ j, j < r.2.2 → defaultValue (gty ci j) = vp_V fs j) (hc : kc + 1 ≤ R0.cells) (hs : ks + r.2.2 ≤ R0.slots) (d : decode cc pc = .ok (.new idx, 3)) (kk : ∀ q, σ q = none → G Γ (hup σ q (.inr (ci, fs))) (kc + 1) (ks + r.2.2) (pc + 3) ls (.ref q :: st)) : G Γ σ kc ks pc ls st := by
  obtain ⟨p, l, e, R, s, m, args, below, meth, c, A, D, dA, Q⟩ := Γ
  obtain ⟨hx, hb, hml, hown, hts, hK, hAA, hlk, hl0, hR0, hZ, hE⟩ := cx
  subst hR0
  intro H locs la hP hA hS hL
  obtain ⟨h1, h2, h3⟩ := gOk_all ci _ hr
  have hKn := hK.1 ci _ hr
  refine W.newcK hx hb hown (hts _ hw) (hts _ hi) (hts _ hn) rfl d hc hs hKn.2.1 rfl fun H1 kC hkC e1 z1 o1 => ?_
  exact kk H.size (g_fresh hP) H1 locs la (hP.push ⟨_, hr, (u_born (gty ci) hts h1 hKn hkC e1 h2).to hfs⟩ (Nat.le_refl _) o1) (g_hAn hA hAA hS) ⟨Nat.le_trans hS.1 (by omega), fun x h1 h2 => (o1 x (Nat.lt_of_lt_of_le h1 hS.1)).trans (hS.2.1 x h1 h2), hS.2.2⟩ hL
theorem g_newa {atype : ArrayType} {ty : FieldType} {t N : Nat} {n : Int32} {a0 : vp_A} (cx : CX l0 Γ cc own nL R0) (hty : newarray.typeOf atype = ty) (hw : Cond.arrayClass ty ∈ TB) (ht : (tyL (gdA Γ))[t]? = some (gdA Γ t, ty)) (ha : ∀ cA : ClassId, vp_cell cA a0 = arrV cA N (fun _ => defaultValue ty)) (hn : ¬ n < 0) (hN : n.toNatClampNeg = N) (hbytes : N * componentBytes ty ≤ 536870912) (hc : kc + 1 ≤ R0.cells) (hs : ks + N ≤ R0.slots) (d : decode cc pc = .ok (.newarray atype, 2)) (kk : ∀ q, σ q = none → G Γ (hup σ q (.inl (gdA Γ t, a0))) (kc + 1) (ks + N) (pc + 2) ls (.ref q :: st)) : G Γ σ kc ks pc ls (.int n :: st) := by
  subst hty
  obtain ⟨p, l, e, R, s, m, args, below, meth, c, A, D, dA, Q⟩ := Γ
  obtain ⟨hx, hb, hml, hown, hts, hK, hAA, hlk, hl0, hR0, hZ, hE⟩ := cx
  subst hR0
  intro H locs la hP hA hS hL
  refine va_newaK hx hb (hts _ hw) rfl d rfl hn hN hbytes hc hs rfl fun H1 cA e1 z1 o1 hAr hNm => ?_
  have hra := (hK.2 t _ ht).2
  have hcA : cA = dA t := by
    have h0 : s.vm.findClass ("[" ++ (newarray.typeOf atype).toString) = some (dA t) := by cases atype <;> exact hra
    exact Option.some.inj (hNm.symm.trans h0)
  subst hcA
  refine kk H.size (g_fresh hP) H1 locs la (hP.push ?_ (Nat.le_refl _) o1) (g_hAn hA hAA hS) ⟨Nat.le_trans hS.1 (by omega), fun x h1 h2 => (o1 x (Nat.lt_of_lt_of_le h1 hS.1)).trans (hS.2.1 x h1 h2), hS.2.2⟩ hL
  show H1[H.size]? = some (vp_cell _ _)
  have := ha (dA t)
  rw [show vp_cell (gdA (p, l, e, R, s, m, args, below, meth, c, A, D, dA, Q) t) a0 = vp_cell (dA t) a0 from rfl, this]
  exact e1
theorem g_anew {C : String} {idx t N : Nat} {n : Int32} (cx : CX l0 Γ cc own nL R0) (hC : C ∈ gArr) (hw : Cond.classLink own idx C ∈ TB) (ht : (tyL (gdA Γ))[t]? = some (gdA Γ t, .object C)) (hn : ¬ n < 0) (hN : n.toNatClampNeg = N) (hbytes : N * 4 ≤ 536870912) (hc : kc + 1 ≤ R0.cells) (hs : ks + N ≤ R0.slots) (d : decode cc pc = .ok (.anewarray idx, 3)) (kk : ∀ q, σ q = none → G Γ (hup σ q (.inl (gdA Γ t, N, .inr (.inr (.inr (.inr (fun _ => none))))))) (kc + 1) (ks + N) (pc + 3) ls (.ref q :: st)) : G Γ σ kc ks pc ls (.int n :: st) := by
  subst hN
  obtain ⟨p, l, e, R, s, m, args, below, meth, c, A, D, dA, Q⟩ := Γ
  obtain ⟨hx, hb, hml, hown, hts, hK, hAA, hlk, hl0, hR0, hZ, hE⟩ := cx
  subst hR0
  intro H locs la hP hA hS hL
  refine W.anew hx hb hown (hts _ hw) ((hE.2.2.2.1 C hC).use) rfl d rfl hn hbytes hc hs fun cA kA comp f1 f2 f3 f4 => ?_
  generalize hH1 : H.push ({ cls := cA, slots := Array.replicate n.toNatClampNeg .null, vm := .none } : Cell) = H1
  have z1 : H1.size = H.size + 1 := by rw [← hH1, Array.size_push]
  have e1 : H1[H.size]? = some (arrV cA n.toNatClampNeg (fun _ => .null)) := by rw [← hH1, Array.getElem?_push_size, ← arrV_new]
  have o1 : ∀ q : Nat, q < H.size → H1[q]? = H[q]? := fun q hq => by rw [← hH1, Array.getElem?_push, if_neg (Nat.ne_of_lt hq)]
  obtain ⟨kA', comp', k1, k2, k3, k4⟩ := (hK.2 t _ ht).2
  have hcA : cA = dA t := Option.some.inj (f1.symm.trans k4)
  subst hcA
  refine kk H.size (g_fresh hP) H1 locs la (hP.push ?_ (Nat.le_refl _) o1) (g_hAn hA hAA hS) ⟨Nat.le_trans hS.1 (by omega), fun x h1 h2 => (o1 x (Nat.lt_of_lt_of_le h1 hS.1)).trans (hS.2.1 x h1 h2), hS.2.2⟩ hL
  show H1[H.size]? = some (vp_cell _ _)
  rw [vp_cell_q]
  exact e1
theorem g_objInit {idx a : Nat} (cx : CX l0 Γ cc own nL R0) (hw : Cond.methodLink own idx objectInit ∈ TB) (hi : Cond.instanceMethod objectInit ∈ TB) (hcd : Cond.code objectInit ⟨#[0xb1]⟩ 1 none ∈ TB) (hlen : ls.length = nL) (hf : 1 ≤ R0.frames) (hl : (st.map fun v => v.category).sum + 12 ≤ R0.locals) (d : decode cc pc = .ok (.invokespecial idx, 3)) (k : G Γ σ kc ks (pc + 3) ls st) : G Γ σ kc ks pc ls (.ref a :: st) := by
  obtain ⟨p, l, e, R, s, m, args, below, meth, c, A, D, dA, Q⟩ := Γ
  obtain ⟨hx, hb, hml, hown, hts, hK, hAA, hlk, hl0, hR0, hZ, hE⟩ := cx
  subst hR0
  intro H locs la hP hA hS hL
  exact W.objInit hx hb hown (hts _ hw) (hts _ hi) (hts _ hcd) rfl (by rw [hml, ← hlen]; exact hL.1) rfl d hf (by show 2 * 0 + _ + 12 ≤ _; omega) (k H locs la hP hA hS hL)
theorem g_tswIn {dflt lo hi : Int} {offs : Array Int} {len : Nat} {x : Int32} {off : Int} {tgt : Nat} (cx : CX l0 Γ cc own nL R0) (d : decode cc pc = .ok (.tableswitch dflt lo hi offs, len)) (h1 : ¬ x.toInt < lo) (h2 : ¬ hi < x.toInt) (ho : offs[(x.toInt - lo).toNat]? = some off) (ht : (pc : Int) + off = (tgt : Int)) (k : G Γ σ kc ks tgt ls st) : G Γ σ kc ks pc ls (.int x :: st) := by
  obtain ⟨p, l, e, R, s, m, args, below, meth, c, A, D, dA, Q⟩ := Γ
  obtain ⟨hx, hb, hml, hown, hts, hK, hAA, hlk, hl0, hR0, hZ, hE⟩ := cx
  intro H locs la hP hA hS hL
  exact lv_tableIn hx hb d h1 h2 ho ht (k H locs la hP hA hS hL)
theorem g_tswOut {dflt lo hi : Int} {offs : Array Int} {len : Nat} {x : Int32} {tgt : Nat} (cx : CX l0 Γ cc own nL R0) (d : decode cc pc = .ok (.tableswitch dflt lo hi offs, len)) (h : x.toInt < lo ∨ hi < x.toInt) (ht : (pc : Int) + dflt = (tgt : Int)) (k : G Γ σ kc ks tgt ls st) : G Γ σ kc ks pc ls (.int x :: st) := by
  obtain ⟨p, l, e, R, s, m, args, below, meth, c, A, D, dA, Q⟩ := Γ
  obtain ⟨hx, hb, hml, hown, hts, hK, hAA, hlk, hl0, hR0, hZ, hE⟩ := cx
  intro H locs la hP hA hS hL
  exact lv_tableOut hx hb d h ht (k H locs la hP hA hS hL)
theorem g_widen {k n : Nat} (h1 : kc ≤ k) (h2 : ks ≤ n) (kk : G Γ σ k n pc ls st) : G Γ σ kc ks pc ls st := by
  obtain ⟨p, l, e, R, s, m, args, below, meth, c, A, D, dA, Q⟩ := Γ
  intro H locs la hP hA hS hL
  exact W.widen h1 h2 (kk H locs la hP hA hS hL)
end GMORE
