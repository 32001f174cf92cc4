/-! THE CLASS: its 36 cells that are made once (cd k), as a table of integers C k e and a table of references R k e; what else it makes never changes -/
abbrev cR : Type := Nat → Int → Option Nat
def rwr (R : cR) (k : Nat) (e : Int) (r : Option Nat) : cR := fun a b => if a = k ∧ b = e then r else R a b
theorem rwr_s {R : cR} {k : Nat} {e : Int} {v : Option Nat} : rwr R k e v k e = v := if_pos ⟨rfl, rfl⟩
theorem rwr_k {R : cR} {k a : Nat} {e b : Int} {v : Option Nat} (h : a ≠ k) : rwr R k e v a b = R a b := if_neg (fun q => h q.1)
theorem rwr_e {R : cR} {k a : Nat} {e b : Int} {v : Option Nat} (h : b ≠ e) : rwr R k e v a b = R a b := if_neg (fun q => h q.2)
def xFs (cd : Nat → Nat) (C : mS) (R : cR) : List Value := [.ref (cd 1), .ref (cd 2), .int (iI (C 0 2)), .ref (cd 3), va_rf (R 0 4), va_rf (R 0 5), va_rf (R 0 6), .ref (cd 12), .ref (cd 23), .int (iI (C 0 9))]
def seFs (cd : Nat → Nat) (C : mS) : List Value := [.int (iI (C 3 0)), .ref (cd 4), .ref (cd 5)]
def tkFs (cd : Nat → Nat) (C : mS) (R : cR) (k : Nat) : List Value := [va_rf (R k 0), .int (iI (C k 1)), .int (iI (C k 2)), .int (iI (C k 3)), .int (iI (C k 4)), .int (iI (C k 5)), .int (iI (C k 6)), .int (iI (C k 7)), .int (iI (C k 8)), .ref (cd (k + 5))]
def ptFs (cd : Nat → Nat) (C : mS) (k : Nat) : List Value := [.int (iI (C k 0)), .int (iI (C k 1)), .ref (cd (k + 6)), .int (iI (C k 3)), .int (iI (C k 4))]
/-- the length of an array of ints among them (else 0) -/
def cIL (k : Nat) : Nat := if k = 1 ∨ k = 4 ∨ (6 ≤ k ∧ k < 12) then 6 else if 18 ≤ k ∧ k < 23 then 8 else if 30 ≤ k ∧ k < 36 then 4 else 0
def cE (dA : Nat → ClassId) (cd : Nat → Nat) (C : mS) (R : cR) (k : Nat) : va_E :=
  if 0 < cIL k then .inl (dA 0, cIL k, .inl (fun j => iI (C k (j : Int))))
  else if k = 0 then .inr (6, xFs cd C R)
  else if k = 3 then .inr (3, seFs cd C)
  else if 13 ≤ k ∧ k < 18 then .inr (5, tkFs cd C R k)
  else if 24 ≤ k ∧ k < 30 then .inr (1, ptFs cd C k)
  else if k = 2 then .inl (dA 4, 5, .inr (.inr (.inr (.inr (fun j => R 2 (j : Int))))))
  else if k = 5 then .inl (dA 6, 6, .inr (.inr (.inr (.inr (fun j => if j < 6 then some (cd (6 + j)) else none)))))
  else if k = 12 then .inl (dA 5, 5, .inr (.inr (.inr (.inr (fun j => if j < 5 then some (cd (13 + j)) else none)))))
  else .inl (dA 3, 6, .inr (.inr (.inr (.inr (fun j => if j < 6 then some (cd (24 + j)) else none)))))
def cat (dA : Nat → ClassId) (cd : Nat → Nat) (σ : hS) (C : mS) (R : cR) : Prop := (∀ k, k < 36 → σ (cd k) = some (cE dA cd C R k)) ∧ ∀ i j, i < 36 → j < 36 → cd i = cd j → i = j
/-- what was there, and isn't of these cells, stays -/
def cFr (cd : Nat → Nat) (σ σ' : hS) : Prop := ∀ a, σ a ≠ none → (∀ k, k < 36 → a ≠ cd k) → σ' a = σ a
theorem cFr.rf {cd : Nat → Nat} {σ : hS} : cFr cd σ σ := fun _ _ _ => rfl
theorem cFr.tr {cd : Nat → Nat} {σ σ1 σ2 : hS} (h1 : cFr cd σ σ1) (h2 : cFr cd σ1 σ2) : cFr cd σ σ2 := fun a q1 q2 => (h2 a (by rw [h1 a q1 q2]; exact q1) q2).trans (h1 a q1 q2)
def cP (dA : Nat → ClassId) (cd : Nat → Nat) (σ : hS) (r : Option Value) (C : mS) (R : cR) : Option Value → hS → Prop := fun v σ' => v = r ∧ cat dA cd σ' C R ∧ cFr cd σ σ'
/-- a cell that isn't one of the 36 -/
def pl (cd : Nat → Nat) (σ : hS) (a : Nat) (e : va_E) : Prop := σ a = some e ∧ ∀ k, k < 36 → a ≠ cd k
theorem pl.fr {cd : Nat → Nat} {σ σ' : hS} {a : Nat} {e : va_E} (h : pl cd σ a e) (hF : cFr cd σ σ') : pl cd σ' a e := ⟨(hF a (by rw [h.1]; exact fun q => by cases q) h.2).trans h.1, h.2⟩
/-- a planned stream: P 0 .. 2: period, size, deadline; P 3 .. 6: path, begins, ends, spans; P 7: its start; P 8: how many hops -/
def isPS (dA : Nat → ClassId) (cd : Nat → Nat) (σ : hS) (a : Nat) (P : mS) : Prop := ∃ pa ba ea sa : Nat, pl cd σ a (.inr (0, [.int (iI (P 0 0)), .int (iI (P 1 0)), .int (iI (P 2 0)), .ref pa, .ref ba, .ref ea, .ref sa, .int (iI (P 7 0))])) ∧ pl cd σ pa (.inl (dA 0, (P 8 0).toNat, .inl (fun j => iI (P 3 (j : Int))))) ∧ pl cd σ ba (.inl (dA 0, (P 8 0).toNat, .inl (fun j => iI (P 4 (j : Int))))) ∧ pl cd σ ea (.inl (dA 0, (P 8 0).toNat, .inl (fun j => iI (P 5 (j : Int))))) ∧ pl cd σ sa (.inl (dA 0, (P 8 0).toNat, .inl (fun j => iI (P 6 (j : Int)))))
theorem isPS.fr {dA : Nat → ClassId} {cd : Nat → Nat} {σ σ' : hS} {a : Nat} {P : mS} (h : isPS dA cd σ a P) (hF : cFr cd σ σ') : isPS dA cd σ' a P := by
  obtain ⟨pa, ba, ea, sa, h0, h1, h2, h3, h4⟩ := h
  exact ⟨pa, ba, ea, sa, h0.fr hF, h1.fr hF, h2.fr hF, h3.fr hF, h4.fr hF⟩
/-- a schedule: n planned streams -/
def isSc (dA : Nat → ClassId) (cd : Nat → Nat) (σ : hS) (a n : Nat) (Q : Nat → mS) : Prop := ∃ (arr : Nat) (A : Nat → Option Nat), pl cd σ a (.inr (2, [.ref arr])) ∧ pl cd σ arr (.inl (dA 2, n, .inr (.inr (.inr (.inr A))))) ∧ ∀ i, i < n → ∃ ai, A i = some ai ∧ isPS dA cd σ ai (Q i)
theorem isSc.fr {dA : Nat → ClassId} {cd : Nat → Nat} {σ σ' : hS} {a n : Nat} {Q : Nat → mS} (h : isSc dA cd σ a n Q) (hF : cFr cd σ σ') : isSc dA cd σ' a n Q := by
  obtain ⟨arr, A, h0, h1, h2⟩ := h
  exact ⟨arr, A, h0.fr hF, h1.fr hF, fun i hi => (h2 i hi).imp fun ai q => ⟨q.1, q.2.fr hF⟩⟩
section CAT
variable {dA : Nat → ClassId} {cd : Nat → Nat} {σ σ0 : hS} {C C' : mS} {R R' : cR}
theorem cIL_big {k : Nat} (h : 13 ≤ k ∧ k < 18 ∨ 24 ≤ k ∧ k < 30) : ¬ 0 < cIL k := by
  unfold cIL
  rw [if_neg (by omega), if_neg (by omega), if_neg (by omega)]
  decide
theorem cE_tk {k : Nat} (h : 13 ≤ k ∧ k < 18) : cE dA cd C R k = .inr (5, tkFs cd C R k) := by
  unfold cE
  rw [if_neg (cIL_big (Or.inl h)), if_neg (by omega), if_neg (by omega), if_pos h]
theorem cE_pt {k : Nat} (h : 24 ≤ k ∧ k < 30) : cE dA cd C R k = .inr (1, ptFs cd C k) := by
  unfold cE
  rw [if_neg (cIL_big (Or.inr h)), if_neg (by omega), if_neg (by omega), if_neg (by omega), if_pos h]
theorem cat.x (h : cat dA cd σ C R) : σ (cd 0) = some (.inr (6, xFs cd C R)) := h.1 0 (by decide)
theorem cat.se (h : cat dA cd σ C R) : σ (cd 3) = some (.inr (3, seFs cd C)) := h.1 3 (by decide)
theorem cat.tk (h : cat dA cd σ C R) {i : Nat} (hi : i < 5) : σ (cd (13 + i)) = some (.inr (5, tkFs cd C R (13 + i))) := by rw [h.1 (13 + i) (by omega), cE_tk (by omega)]
theorem cat.pt (h : cat dA cd σ C R) {i : Nat} (hi : i < 6) : σ (cd (24 + i)) = some (.inr (1, ptFs cd C (24 + i))) := by rw [h.1 (24 + i) (by omega), cE_pt (by omega)]
theorem cat.i (h : cat dA cd σ C R) {k L : Nat} (hk : cIL k = L) (hL : 0 < L) (h36 : k < 36) : σ (cd k) = some (.inl (dA 0, L, .inl (fun j => iI (C k (j : Int))))) := by
  rw [h.1 k h36]
  unfold cE
  rw [hk, if_pos hL]
theorem cIL_st {i : Nat} (h : i < 5) : cIL (13 + i + 5) = 8 := by unfold cIL; rw [if_neg (by omega), if_pos (by omega)]
theorem cIL_sz {i : Nat} (h : i < 6) : cIL (24 + i + 6) = 4 := by unfold cIL; rw [if_neg (by omega), if_neg (by omega), if_pos (by omega)]
theorem cIL_row {i : Nat} (h : i < 6) : cIL (6 + i) = 6 := by unfold cIL; rw [if_pos (by omega)]
theorem cat.st (h : cat dA cd σ C R) {i : Nat} (hi : i < 5) : σ (cd (13 + i + 5)) = some (.inl (dA 0, 8, .inl (fun j => iI (C (13 + i + 5) (j : Int))))) := h.i (cIL_st hi) (by decide) (by omega)
theorem cat.sz (h : cat dA cd σ C R) {i : Nat} (hi : i < 6) : σ (cd (24 + i + 6)) = some (.inl (dA 0, 4, .inl (fun j => iI (C (24 + i + 6) (j : Int))))) := h.i (cIL_sz hi) (by decide) (by omega)
theorem cat.row (h : cat dA cd σ C R) {i : Nat} (hi : i < 6) : σ (cd (6 + i)) = some (.inl (dA 0, 6, .inl (fun j => iI (C (6 + i) (j : Int))))) := h.i (cIL_row hi) (by decide) (by omega)
theorem cat.add (h : cat dA cd σ C R) : σ (cd 2) = some (.inl (dA 4, 5, .inr (.inr (.inr (.inr (fun j => R 2 (j : Int))))))) := h.1 2 (by decide)
theorem cat.tak (h : cat dA cd σ C R) : σ (cd 5) = some (.inl (dA 6, 6, .inr (.inr (.inr (.inr (fun j => if j < 6 then some (cd (6 + j)) else none)))))) := h.1 5 (by decide)
theorem cat.tks (h : cat dA cd σ C R) : σ (cd 12) = some (.inl (dA 5, 5, .inr (.inr (.inr (.inr (fun j => if j < 5 then some (cd (13 + j)) else none)))))) := h.1 12 (by decide)
theorem cat.pts (h : cat dA cd σ C R) : σ (cd 23) = some (.inl (dA 3, 6, .inr (.inr (.inr (.inr (fun j => if j < 6 then some (cd (24 + j)) else none)))))) := h.1 23 (by decide)
theorem cE_congr {k : Nat} (hC : C' k = C k) (hR : R' k = R k) : cE dA cd C' R' k = cE dA cd C R k := by
  unfold cE
  by_cases h : 0 < cIL k
  · rw [if_pos h, if_pos h, hC]
  · rw [if_neg h, if_neg h]
    by_cases h0 : k = 0
    · subst h0; rw [if_pos rfl, if_pos rfl]; unfold xFs; rw [hC, hR]
    · rw [if_neg h0, if_neg h0]
      by_cases h3 : k = 3
      · subst h3; rw [if_pos rfl, if_pos rfl]; unfold seFs; rw [hC]
      · rw [if_neg h3, if_neg h3]
        by_cases h4 : 13 ≤ k ∧ k < 18
        · rw [if_pos h4, if_pos h4]; unfold tkFs; rw [hC, hR]
        · rw [if_neg h4, if_neg h4]
          by_cases h5 : 24 ≤ k ∧ k < 30
          · rw [if_pos h5, if_pos h5]; unfold ptFs; rw [hC]
          · rw [if_neg h5, if_neg h5]
            by_cases h2 : k = 2
            · subst h2; rw [if_pos rfl, if_pos rfl, hR]
            · rw [if_neg h2, if_neg h2]
theorem cat_put (h : cat dA cd σ C R) {k : Nat} (hk : k < 36) {e : va_E} (he : e = cE dA cd C' R' k) (hC : ∀ k', k' ≠ k → C' k' = C k') (hR : ∀ k', k' ≠ k → R' k' = R k') : cat dA cd (hup σ (cd k) e) C' R' ∧ cFr cd σ (hup σ (cd k) e) := by
  refine ⟨⟨fun k' hk' => ?_, h.2⟩, fun a _ q => hup_n (q k hk)⟩
  by_cases hkk : k' = k
  · subst hkk; rw [hup_s, he]
  · rw [hup_n (fun q => hkk (h.2 k' k hk' hk q)), h.1 k' hk', cE_congr (hC k' hkk) (hR k' hkk)]
theorem mw_ne {S : mS} {k : Nat} {e v : Int} : ∀ k', k' ≠ k → mw S k e v k' = S k' := fun _ h => funext fun _ => mw_k h
theorem rwr_ne {S : cR} {k : Nat} {e : Int} {v : Option Nat} : ∀ k', k' ≠ k → rwr S k e v k' = S k' := fun _ h => funext fun _ => rwr_k h
end CAT
def va_E_i (c : ClassId) (L : Nat) (f : Nat → Int32) : va_E := .inl (c, L, .inl f)
section CROWS
variable {l0 : Launch} {Γ : gC} {cc : ByteArray} {own : String} {nL : Nat} {R0 : Room} {σ σ0 : hS} {kc ks pc idx : Nat} {ls : gLs} {st : List Value} {cd : Nat → Nat} {C : mS} {R : cR}
/-- an int of a field of one of the 36 -/
theorem c_put {k ci f : Nat} {v : Int} {fs : List Value} {C' : mS} (cx : CX l0 Γ cc own nL R0) (hc : cat (gdA Γ) cd σ C R) (hF : cFr cd σ0 σ) (hk : k < 36) (hf : gF own idx ci f) (hfin : gFin ci f = false) (he : cE (gdA Γ) cd C R k = .inr (ci, fs)) (hl : f < fs.length) (hv : narrow (gty ci f) (.int (iI v)) = .int (iI v) ∧ fits (gty ci f) (.int (iI v)) = true) (hs : .inr (ci, fs.set f (.int (iI v))) = cE (gdA Γ) cd C' R k) (hC : ∀ k', k' ≠ k → C' k' = C k') (d : decode cc pc = .ok (.putfield idx, 3)) (kk : ∀ σ', cat (gdA Γ) cd σ' C' R → cFr cd σ0 σ' → G Γ σ' kc ks (pc + 3) ls st) : G Γ σ kc ks pc ls (.int (iI v) :: .ref (cd k) :: st) := by
  have h0 := hc.1 k hk
  rw [he] at h0
  refine g_putf cx hf hfin h0 hl hv.1 hv.2 d ?_
  obtain ⟨q1, q2⟩ := cat_put hc hk hs hC (fun _ _ => rfl)
  exact kk _ q1 (hF.tr q2)
theorem c_putR {k ci f : Nat} {r : Option Nat} {fs : List Value} {R' : cR} (cx : CX l0 Γ cc own nL R0) (hc : cat (gdA Γ) cd σ C R) (hF : cFr cd σ0 σ) (hk : k < 36) (hf : gF own idx ci f) (hfin : gFin ci f = false) (he : cE (gdA Γ) cd C R k = .inr (ci, fs)) (hl : f < fs.length) (hv : narrow (gty ci f) (va_rf r) = va_rf r ∧ fits (gty ci f) (va_rf r) = true) (hs : .inr (ci, fs.set f (va_rf r)) = cE (gdA Γ) cd C R' k) (hC : ∀ k', k' ≠ k → R' k' = R k') (d : decode cc pc = .ok (.putfield idx, 3)) (kk : ∀ σ', cat (gdA Γ) cd σ' C R' → cFr cd σ0 σ' → G Γ σ' kc ks (pc + 3) ls st) : G Γ σ kc ks pc ls (va_rf r :: .ref (cd k) :: st) := by
  have h0 := hc.1 k hk
  rw [he] at h0
  refine g_putf cx hf hfin h0 hl hv.1 hv.2 d ?_
  obtain ⟨q1, q2⟩ := cat_put hc hk hs (fun _ _ => rfl) hC
  exact kk _ q1 (hF.tr q2)
theorem z_iald {a N : Nat} {F : Int → Int} {e : Int} (cx : CX l0 Γ cc own nL R0) (hσ : σ a = some (.inl (gdA Γ 0, N, .inl (fun j => iI (F (j : Int)))))) (d : decode cc pc = .ok (.iaload, 1)) (he : (0 ≤ e ∧ e < (N : Int)) ∧ (N : Int) ≤ 100000) (kk : G Γ σ kc ks (pc + 1) ls (.int (iI (F e)) :: st)) : G Γ σ kc ks pc ls (.int (iI e) :: .ref a :: st) := by
  refine g_iald cx hσ (iI_in he.1 (by omega)) d ?_
  rw [iI_cl (by omega)]
  have : ((e.toNat : Nat) : Int) = e := by omega
  rw [this]
  exact kk
theorem c_iast {k L : Nat} {e v : Int} (cx : CX l0 Γ cc own nL R0) (hc : cat (gdA Γ) cd σ C R) (hF : cFr cd σ0 σ) (hk : cIL k = L) (hL : 0 < L ∧ L < 100) (h36 : k < 36) (d : decode cc pc = .ok (.iastore, 1)) (he : 0 ≤ e ∧ e < (L : Int)) (kk : ∀ σ', cat (gdA Γ) cd σ' (mw C k e v) R → cFr cd σ0 σ' → G Γ σ' kc ks (pc + 1) ls st) : G Γ σ kc ks pc ls (.int (iI v) :: .int (iI e) :: .ref (cd k) :: st) := by
  refine g_iast cx (hc.i hk hL.1 h36) (iI_in he (by omega)) d ?_
  rw [iI_cl (by omega)]
  have hs : va_E_i (gdA Γ 0) L (upd (fun j : Nat => iI (C k (j : Int))) e.toNat (iI v)) = cE (gdA Γ) cd (mw C k e v) R k := by
    unfold cE
    rw [hk, if_pos hL.1]
    unfold va_E_i
    have : upd (fun j : Nat => iI (C k (j : Int))) e.toNat (iI v) = fun j : Nat => iI (mw C k e v k (j : Int)) := funext (mw_upd he.1)
    rw [this]
  obtain ⟨q1, q2⟩ := cat_put hc h36 hs mw_ne (fun _ _ => rfl)
  exact kk _ q1 (hF.tr q2)
/-- one of the talkers, of the ports, of the rows -/
theorem c_tks {i : Nat} (cx : CX l0 Γ cc own nL R0) (hc : cat (gdA Γ) cd σ C R) (d : decode cc pc = .ok (.aaload, 1)) (hi : i < 5) (kk : G Γ σ kc ks (pc + 1) ls (.ref (cd (13 + i)) :: st)) : G Γ σ kc ks pc ls (.int (iI (i : Int)) :: .ref (cd 12) :: st) := by
  refine g_aald5 cx hc.tks (iI_in (by omega) (by omega)) d ?_
  rw [iI_cl (by omega), Int.toNat_natCast, if_pos hi]
  exact kk
theorem c_pts {i : Nat} (cx : CX l0 Γ cc own nL R0) (hc : cat (gdA Γ) cd σ C R) (d : decode cc pc = .ok (.aaload, 1)) (hi : i < 6) (kk : G Γ σ kc ks (pc + 1) ls (.ref (cd (24 + i)) :: st)) : G Γ σ kc ks pc ls (.int (iI (i : Int)) :: .ref (cd 23) :: st) := by
  refine g_aald3 cx hc.pts (iI_in (by omega) (by omega)) d ?_
  rw [iI_cl (by omega), Int.toNat_natCast, if_pos hi]
  exact kk
theorem c_rows {i : Nat} (cx : CX l0 Γ cc own nL R0) (hc : cat (gdA Γ) cd σ C R) (d : decode cc pc = .ok (.aaload, 1)) (hi : i < 6) (kk : G Γ σ kc ks (pc + 1) ls (.ref (cd (6 + i)) :: st)) : G Γ σ kc ks pc ls (.int (iI (i : Int)) :: .ref (cd 5) :: st) := by
  refine g_aald6 cx hc.tak (iI_in (by omega) (by omega)) d ?_
  rw [iI_cl (by omega), Int.toNat_natCast, if_pos hi]
  exact kk
variable {y : MethodName} {cc' : ByteArray} {nL' : Nat} {ret' : Option FieldType} {rm : Room} {rest As : List Value} {r : Option Value} {C' : mS} {R' : cR}
/-- a call that makes nothing, throws nothing, on an object of class ci -/
theorem c_callV {b ci : Nat} {fs : List Value} (cx : CX l0 Γ cc own nL R0) (hl : gV own idx y (.code y cc' nL' ret')) (hM : gM l0 (gdA Γ) y (.code y cc' nL' ret') rm σ (.ref b :: As) (cP (gdA Γ) cd σ r C' R') nX) (hb : σ b = some (.inr (ci, fs))) (hF : cFr cd σ0 σ) (hci : (gcl[ci]?).map (fun r => r.1) = some y.cls) (hy : gY y As.length) (hR : gRm rm R0 nL' kc ks) (h0 : rm.cells = 0 ∧ rm.slots = 0) (hlen : ls.length = nL) (hst : st = As.reverse ++ .ref b :: rest) (hW : (rest.map fun v => v.category).sum ≤ 8) (d : decode cc pc = .ok (.invokevirtual idx, 3))
    (kk : ∀ σ', cat (gdA Γ) cd σ' C' R' → cFr cd σ0 σ' → G Γ σ' kc ks (pc + 3) ls (r.toList ++ rest)) : G Γ σ kc ks pc ls st := by
  refine g_callV cx hl hM hb hci hy hR hlen hW hst d (fun _ _ q => q.elim) (fun v σ' q => ?_)
  obtain ⟨rfl, q1, q2⟩ := q
  rw [h0.1, h0.2]
  exact kk σ' q1 (hF.tr q2)
/-- the same, of a method that changes nothing -/
theorem s_callV {b ci : Nat} {fs : List Value} (cx : CX l0 Γ cc own nL R0) (hl : gV own idx y (.code y cc' nL' ret')) (hM : gM l0 (gdA Γ) y (.code y cc' nL' ret') rm σ (.ref b :: As) (sP σ r) nX) (hb : σ b = some (.inr (ci, fs))) (hci : (gcl[ci]?).map (fun r => r.1) = some y.cls) (hy : gY y As.length) (hR : gRm rm R0 nL' kc ks) (h0 : rm.cells = 0 ∧ rm.slots = 0) (hlen : ls.length = nL) (hst : st = As.reverse ++ .ref b :: rest) (hW : (rest.map fun v => v.category).sum ≤ 8) (d : decode cc pc = .ok (.invokevirtual idx, 3))
    (kk : G Γ σ kc ks (pc + 3) ls (r.toList ++ rest)) : G Γ σ kc ks pc ls st := by
  refine g_callV cx hl hM hb hci hy hR hlen hW hst d (fun _ _ q => q.elim) (fun v σ' q => ?_)
  obtain ⟨rfl, rfl⟩ := q
  rw [h0.1, h0.2]
  exact kk
end CROWS
