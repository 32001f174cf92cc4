/-! G: a row an instruction (written by program) -/
theorem g_iadd {l0 : Launch} {Γ : gC} {cc : ByteArray} {own : String} {nL : Nat} {R0 : Room} {σ : hS} {kc ks pc : Nat} {ls : gLs} {st : List Value} {x y : Int32} (cx : CX l0 Γ cc own nL R0) (d : decode cc pc = .ok (.iadd, 1)) (k : G Γ σ kc ks (pc + 1) ls (.int (x + y) :: st)) : G Γ σ kc ks pc ls (.int y :: .int x :: st) := by
  obtain ⟨p, l, e, R, s, m, args, below, meth, c, A, D, dA, Q⟩ := Γ
  obtain ⟨hx, hb, hml, hown, hts, hK, hAA, hlk, hl0, hR0, hZ, hE⟩ := cx
  intro H locs la hP hA hS hL
  exact lv_iadd hx hb d (k H locs la hP hA hS hL)

theorem g_isub {l0 : Launch} {Γ : gC} {cc : ByteArray} {own : String} {nL : Nat} {R0 : Room} {σ : hS} {kc ks pc : Nat} {ls : gLs} {st : List Value} {x y : Int32} (cx : CX l0 Γ cc own nL R0) (d : decode cc pc = .ok (.isub, 1)) (k : G Γ σ kc ks (pc + 1) ls (.int (x - y) :: st)) : G Γ σ kc ks pc ls (.int y :: .int x :: st) := by
  obtain ⟨p, l, e, R, s, m, args, below, meth, c, A, D, dA, Q⟩ := Γ
  obtain ⟨hx, hb, hml, hown, hts, hK, hAA, hlk, hl0, hR0, hZ, hE⟩ := cx
  intro H locs la hP hA hS hL
  exact lv_isub hx hb d (k H locs la hP hA hS hL)

theorem g_imul {l0 : Launch} {Γ : gC} {cc : ByteArray} {own : String} {nL : Nat} {R0 : Room} {σ : hS} {kc ks pc : Nat} {ls : gLs} {st : List Value} {x y : Int32} (cx : CX l0 Γ cc own nL R0) (d : decode cc pc = .ok (.imul, 1)) (k : G Γ σ kc ks (pc + 1) ls (.int (x * y) :: st)) : G Γ σ kc ks pc ls (.int y :: .int x :: st) := by
  obtain ⟨p, l, e, R, s, m, args, below, meth, c, A, D, dA, Q⟩ := Γ
  obtain ⟨hx, hb, hml, hown, hts, hK, hAA, hlk, hl0, hR0, hZ, hE⟩ := cx
  intro H locs la hP hA hS hL
  exact lv_imul hx hb d (k H locs la hP hA hS hL)

theorem g_iand {l0 : Launch} {Γ : gC} {cc : ByteArray} {own : String} {nL : Nat} {R0 : Room} {σ : hS} {kc ks pc : Nat} {ls : gLs} {st : List Value} {x y : Int32} (cx : CX l0 Γ cc own nL R0) (d : decode cc pc = .ok (.iand, 1)) (k : G Γ σ kc ks (pc + 1) ls (.int (x &&& y) :: st)) : G Γ σ kc ks pc ls (.int y :: .int x :: st) := by
  obtain ⟨p, l, e, R, s, m, args, below, meth, c, A, D, dA, Q⟩ := Γ
  obtain ⟨hx, hb, hml, hown, hts, hK, hAA, hlk, hl0, hR0, hZ, hE⟩ := cx
  intro H locs la hP hA hS hL
  exact lv_iand hx hb d (k H locs la hP hA hS hL)

theorem g_ior {l0 : Launch} {Γ : gC} {cc : ByteArray} {own : String} {nL : Nat} {R0 : Room} {σ : hS} {kc ks pc : Nat} {ls : gLs} {st : List Value} {x y : Int32} (cx : CX l0 Γ cc own nL R0) (d : decode cc pc = .ok (.ior, 1)) (k : G Γ σ kc ks (pc + 1) ls (.int (x ||| y) :: st)) : G Γ σ kc ks pc ls (.int y :: .int x :: st) := by
  obtain ⟨p, l, e, R, s, m, args, below, meth, c, A, D, dA, Q⟩ := Γ
  obtain ⟨hx, hb, hml, hown, hts, hK, hAA, hlk, hl0, hR0, hZ, hE⟩ := cx
  intro H locs la hP hA hS hL
  exact lv_ior hx hb d (k H locs la hP hA hS hL)

theorem g_ishl {l0 : Launch} {Γ : gC} {cc : ByteArray} {own : String} {nL : Nat} {R0 : Room} {σ : hS} {kc ks pc : Nat} {ls : gLs} {st : List Value} {x y : Int32} (cx : CX l0 Γ cc own nL R0) (d : decode cc pc = .ok (.ishl, 1)) (k : G Γ σ kc ks (pc + 1) ls (.int (x <<< (y &&& 31)) :: st)) : G Γ σ kc ks pc ls (.int y :: .int x :: st) := by
  obtain ⟨p, l, e, R, s, m, args, below, meth, c, A, D, dA, Q⟩ := Γ
  obtain ⟨hx, hb, hml, hown, hts, hK, hAA, hlk, hl0, hR0, hZ, hE⟩ := cx
  intro H locs la hP hA hS hL
  exact lv_ishl hx hb d (k H locs la hP hA hS hL)

theorem g_iushr {l0 : Launch} {Γ : gC} {cc : ByteArray} {own : String} {nL : Nat} {R0 : Room} {σ : hS} {kc ks pc : Nat} {ls : gLs} {st : List Value} {x y : Int32} (cx : CX l0 Γ cc own nL R0) (d : decode cc pc = .ok (.iushr, 1)) (k : G Γ σ kc ks (pc + 1) ls (.int ((x.toUInt32 >>> (y.toUInt32 &&& Int32.toUInt32 31)).toInt32) :: st)) : G Γ σ kc ks pc ls (.int y :: .int x :: st) := by
  obtain ⟨p, l, e, R, s, m, args, below, meth, c, A, D, dA, Q⟩ := Γ
  obtain ⟨hx, hb, hml, hown, hts, hK, hAA, hlk, hl0, hR0, hZ, hE⟩ := cx
  intro H locs la hP hA hS hL
  exact lv_iushr hx hb d rfl (k H locs la hP hA hS hL)

theorem g_irem {l0 : Launch} {Γ : gC} {cc : ByteArray} {own : String} {nL : Nat} {R0 : Room} {σ : hS} {kc ks pc : Nat} {ls : gLs} {st : List Value} {x y : Int32} (cx : CX l0 Γ cc own nL R0) (hne : ¬ y = 0) (d : decode cc pc = .ok (.irem, 1)) (k : G Γ σ kc ks (pc + 1) ls (.int (x - x / y * y) :: st)) : G Γ σ kc ks pc ls (.int y :: .int x :: st) := by
  obtain ⟨p, l, e, R, s, m, args, below, meth, c, A, D, dA, Q⟩ := Γ
  obtain ⟨hx, hb, hml, hown, hts, hK, hAA, hlk, hl0, hR0, hZ, hE⟩ := cx
  intro H locs la hP hA hS hL
  exact lv_irem hx hb d hne (k H locs la hP hA hS hL)

theorem g_iconst {l0 : Launch} {Γ : gC} {cc : ByteArray} {own : String} {nL : Nat} {R0 : Room} {σ : hS} {kc ks pc : Nat} {ls : gLs} {st : List Value} {z : Int} {v : Int32} (cx : CX l0 Γ cc own nL R0) (hv : Int32.ofInt z = v) (d : decode cc pc = .ok ((.iconst z), 1)) (k : G Γ σ kc ks (pc + 1) ls (.int v :: st)) : G Γ σ kc ks pc ls (st) := by
  obtain ⟨p, l, e, R, s, m, args, below, meth, c, A, D, dA, Q⟩ := Γ
  obtain ⟨hx, hb, hml, hown, hts, hK, hAA, hlk, hl0, hR0, hZ, hE⟩ := cx
  intro H locs la hP hA hS hL
  exact lv_iconst hx hb d hv (k H locs la hP hA hS hL)

theorem g_bipush {l0 : Launch} {Γ : gC} {cc : ByteArray} {own : String} {nL : Nat} {R0 : Room} {σ : hS} {kc ks pc : Nat} {ls : gLs} {st : List Value} {z : Int} {v : Int32} (cx : CX l0 Γ cc own nL R0) (hv : (Int8.ofInt z).toInt32 = v) (d : decode cc pc = .ok ((.bipush z), 2)) (k : G Γ σ kc ks (pc + 2) ls (.int v :: st)) : G Γ σ kc ks pc ls (st) := by
  obtain ⟨p, l, e, R, s, m, args, below, meth, c, A, D, dA, Q⟩ := Γ
  obtain ⟨hx, hb, hml, hown, hts, hK, hAA, hlk, hl0, hR0, hZ, hE⟩ := cx
  intro H locs la hP hA hS hL
  exact lv_bipush hx hb d hv (k H locs la hP hA hS hL)

theorem g_sipush {l0 : Launch} {Γ : gC} {cc : ByteArray} {own : String} {nL : Nat} {R0 : Room} {σ : hS} {kc ks pc : Nat} {ls : gLs} {st : List Value} {z : Int} {v : Int32} (cx : CX l0 Γ cc own nL R0) (hv : (Int16.ofInt z).toInt32 = v) (d : decode cc pc = .ok ((.sipush z), 3)) (k : G Γ σ kc ks (pc + 3) ls (.int v :: st)) : G Γ σ kc ks pc ls (st) := by
  obtain ⟨p, l, e, R, s, m, args, below, meth, c, A, D, dA, Q⟩ := Γ
  obtain ⟨hx, hb, hml, hown, hts, hK, hAA, hlk, hl0, hR0, hZ, hE⟩ := cx
  intro H locs la hP hA hS hL
  exact lv_sipush hx hb d hv (k H locs la hP hA hS hL)

theorem g_lconst {l0 : Launch} {Γ : gC} {cc : ByteArray} {own : String} {nL : Nat} {R0 : Room} {σ : hS} {kc ks pc : Nat} {ls : gLs} {st : List Value} {z : Fin 2} {v : Int64} (cx : CX l0 Γ cc own nL R0) (hv : Int64.ofNat z = v) (d : decode cc pc = .ok ((.lconst z), 1)) (k : G Γ σ kc ks (pc + 1) ls (.long v :: st)) : G Γ σ kc ks pc ls (st) := by
  obtain ⟨p, l, e, R, s, m, args, below, meth, c, A, D, dA, Q⟩ := Γ
  obtain ⟨hx, hb, hml, hown, hts, hK, hAA, hlk, hl0, hR0, hZ, hE⟩ := cx
  intro H locs la hP hA hS hL
  exact lv_lconst hx hb d hv (k H locs la hP hA hS hL)

theorem g_null {l0 : Launch} {Γ : gC} {cc : ByteArray} {own : String} {nL : Nat} {R0 : Room} {σ : hS} {kc ks pc : Nat} {ls : gLs} {st : List Value} (cx : CX l0 Γ cc own nL R0) (d : decode cc pc = .ok (.aconst_null, 1)) (k : G Γ σ kc ks (pc + 1) ls (.null :: st)) : G Γ σ kc ks pc ls (st) := by
  obtain ⟨p, l, e, R, s, m, args, below, meth, c, A, D, dA, Q⟩ := Γ
  obtain ⟨hx, hb, hml, hown, hts, hK, hAA, hlk, hl0, hR0, hZ, hE⟩ := cx
  intro H locs la hP hA hS hL
  exact lv_null hx hb d (k H locs la hP hA hS hL)

theorem g_dup {l0 : Launch} {Γ : gC} {cc : ByteArray} {own : String} {nL : Nat} {R0 : Room} {σ : hS} {kc ks pc : Nat} {ls : gLs} {st : List Value} {v : Value} (cx : CX l0 Γ cc own nL R0) (hv : v.category = 1) (d : decode cc pc = .ok (.dup, 1)) (k : G Γ σ kc ks (pc + 1) ls (v :: v :: st)) : G Γ σ kc ks pc ls (v :: st) := by
  obtain ⟨p, l, e, R, s, m, args, below, meth, c, A, D, dA, Q⟩ := Γ
  obtain ⟨hx, hb, hml, hown, hts, hK, hAA, hlk, hl0, hR0, hZ, hE⟩ := cx
  intro H locs la hP hA hS hL
  exact lv_dup hx hb d hv (k H locs la hP hA hS hL)

theorem g_dup2 {l0 : Launch} {Γ : gC} {cc : ByteArray} {own : String} {nL : Nat} {R0 : Room} {σ : hS} {kc ks pc : Nat} {ls : gLs} {st : List Value} {va vb : Value} (cx : CX l0 Γ cc own nL R0) (hva : va.category = 1) (hvb : vb.category = 1) (d : decode cc pc = .ok (.dup2, 1)) (k : G Γ σ kc ks (pc + 1) ls (va :: vb :: va :: vb :: st)) : G Γ σ kc ks pc ls (va :: vb :: st) := by
  obtain ⟨p, l, e, R, s, m, args, below, meth, c, A, D, dA, Q⟩ := Γ
  obtain ⟨hx, hb, hml, hown, hts, hK, hAA, hlk, hl0, hR0, hZ, hE⟩ := cx
  intro H locs la hP hA hS hL
  exact lv_dup2_11 hx hb d hva hvb (k H locs la hP hA hS hL)

theorem g_dup_x1 {l0 : Launch} {Γ : gC} {cc : ByteArray} {own : String} {nL : Nat} {R0 : Room} {σ : hS} {kc ks pc : Nat} {ls : gLs} {st : List Value} {va vb : Value} (cx : CX l0 Γ cc own nL R0) (hva : va.category = 1) (hvb : vb.category = 1) (d : decode cc pc = .ok (.dup_x1, 1)) (k : G Γ σ kc ks (pc + 1) ls (va :: vb :: va :: st)) : G Γ σ kc ks pc ls (va :: vb :: st) := by
  obtain ⟨p, l, e, R, s, m, args, below, meth, c, A, D, dA, Q⟩ := Γ
  obtain ⟨hx, hb, hml, hown, hts, hK, hAA, hlk, hl0, hR0, hZ, hE⟩ := cx
  intro H locs la hP hA hS hL
  exact lv_dup_x1 hx hb d hva hvb (k H locs la hP hA hS hL)

theorem g_i2l {l0 : Launch} {Γ : gC} {cc : ByteArray} {own : String} {nL : Nat} {R0 : Room} {σ : hS} {kc ks pc : Nat} {ls : gLs} {st : List Value} {x : Int32} (cx : CX l0 Γ cc own nL R0) (d : decode cc pc = .ok (.i2l, 1)) (k : G Γ σ kc ks (pc + 1) ls (.long x.toInt64 :: st)) : G Γ σ kc ks pc ls (.int x :: st) := by
  obtain ⟨p, l, e, R, s, m, args, below, meth, c, A, D, dA, Q⟩ := Γ
  obtain ⟨hx, hb, hml, hown, hts, hK, hAA, hlk, hl0, hR0, hZ, hE⟩ := cx
  intro H locs la hP hA hS hL
  exact lv_i2l hx hb d rfl (k H locs la hP hA hS hL)

theorem g_lcmp {l0 : Launch} {Γ : gC} {cc : ByteArray} {own : String} {nL : Nat} {R0 : Room} {σ : hS} {kc ks pc : Nat} {ls : gLs} {st : List Value} {x y : Int64} (cx : CX l0 Γ cc own nL R0) (d : decode cc pc = .ok (.lcmp, 1)) (k : G Γ σ kc ks (pc + 1) ls (.int (lg_cmp x y) :: st)) : G Γ σ kc ks pc ls (.long y :: .long x :: st) := by
  obtain ⟨p, l, e, R, s, m, args, below, meth, c, A, D, dA, Q⟩ := Γ
  obtain ⟨hx, hb, hml, hown, hts, hK, hAA, hlk, hl0, hR0, hZ, hE⟩ := cx
  intro H locs la hP hA hS hL
  exact W.lcmp hx hb d (k H locs la hP hA hS hL)

theorem g_ldc {l0 : Launch} {Γ : gC} {cc : ByteArray} {own : String} {nL : Nat} {R0 : Room} {σ : hS} {kc ks pc : Nat} {ls : gLs} {st : List Value} {i : Nat} {v : Int32} (cx : CX l0 Γ cc own nL R0) (hw : (Cond.constant own i v) ∈ TB) (d : decode cc pc = .ok ((.ldc i), 2)) (k : G Γ σ kc ks (pc + 2) ls (.int v :: st)) : G Γ σ kc ks pc ls (st) := by
  obtain ⟨p, l, e, R, s, m, args, below, meth, c, A, D, dA, Q⟩ := Γ
  obtain ⟨hx, hb, hml, hown, hts, hK, hAA, hlk, hl0, hR0, hZ, hE⟩ := cx
  intro H locs la hP hA hS hL
  exact lv_ldc hx hb hown (hts _ hw) d (k H locs la hP hA hS hL)

theorem g_iload_n {l0 : Launch} {Γ : gC} {cc : ByteArray} {own : String} {nL : Nat} {R0 : Room} {σ : hS} {kc ks pc : Nat} {ls : gLs} {st : List Value} {q : Fin 4} {i : Nat} {x : Int32} (cx : CX l0 Γ cc own nL R0) (hi : (q : Nat) = i) (hl : ls[i]? = some (some (.int x))) (d : decode cc pc = .ok (.iload_n q, 1)) (k : G Γ σ kc ks (pc + 1) ls (.int x :: st)) : G Γ σ kc ks pc ls st := by
  obtain ⟨p, l, e, R, s, m, args, below, meth, c, A, D, dA, Q⟩ := Γ
  obtain ⟨hx, hb, hml, hown, hts, hK, hAA, hlk, hl0, hR0, hZ, hE⟩ := cx
  intro H locs la hP hA hS hL
  exact lv_iload_n hx hb d hi (hL.2.2 _ _ hl).1 (k H locs la hP hA hS hL)

theorem g_iload {l0 : Launch} {Γ : gC} {cc : ByteArray} {own : String} {nL : Nat} {R0 : Room} {σ : hS} {kc ks pc : Nat} {ls : gLs} {st : List Value} {i : Nat} {x : Int32} (cx : CX l0 Γ cc own nL R0) (hl : ls[i]? = some (some (.int x))) (d : decode cc pc = .ok (.iload i, 2)) (k : G Γ σ kc ks (pc + 2) ls (.int x :: st)) : G Γ σ kc ks pc ls st := by
  obtain ⟨p, l, e, R, s, m, args, below, meth, c, A, D, dA, Q⟩ := Γ
  obtain ⟨hx, hb, hml, hown, hts, hK, hAA, hlk, hl0, hR0, hZ, hE⟩ := cx
  intro H locs la hP hA hS hL
  exact lv_iload hx hb d (hL.2.2 _ _ hl).1 (k H locs la hP hA hS hL)

theorem g_aload_n {l0 : Launch} {Γ : gC} {cc : ByteArray} {own : String} {nL : Nat} {R0 : Room} {σ : hS} {kc ks pc : Nat} {ls : gLs} {st : List Value} {q : Fin 4} {i : Nat} {x : Nat} (cx : CX l0 Γ cc own nL R0) (hi : (q : Nat) = i) (hl : ls[i]? = some (some (.ref x))) (d : decode cc pc = .ok (.aload_n q, 1)) (k : G Γ σ kc ks (pc + 1) ls (.ref x :: st)) : G Γ σ kc ks pc ls st := by
  obtain ⟨p, l, e, R, s, m, args, below, meth, c, A, D, dA, Q⟩ := Γ
  obtain ⟨hx, hb, hml, hown, hts, hK, hAA, hlk, hl0, hR0, hZ, hE⟩ := cx
  intro H locs la hP hA hS hL
  exact lv_aload_n hx hb d hi (hL.2.2 _ _ hl).1 (k H locs la hP hA hS hL)

theorem g_aload {l0 : Launch} {Γ : gC} {cc : ByteArray} {own : String} {nL : Nat} {R0 : Room} {σ : hS} {kc ks pc : Nat} {ls : gLs} {st : List Value} {i : Nat} {x : Nat} (cx : CX l0 Γ cc own nL R0) (hl : ls[i]? = some (some (.ref x))) (d : decode cc pc = .ok (.aload i, 2)) (k : G Γ σ kc ks (pc + 2) ls (.ref x :: st)) : G Γ σ kc ks pc ls st := by
  obtain ⟨p, l, e, R, s, m, args, below, meth, c, A, D, dA, Q⟩ := Γ
  obtain ⟨hx, hb, hml, hown, hts, hK, hAA, hlk, hl0, hR0, hZ, hE⟩ := cx
  intro H locs la hP hA hS hL
  exact lv_aload hx hb d (hL.2.2 _ _ hl).1 (k H locs la hP hA hS hL)

theorem g_aload_nN {l0 : Launch} {Γ : gC} {cc : ByteArray} {own : String} {nL : Nat} {R0 : Room} {σ : hS} {kc ks pc : Nat} {ls : gLs} {st : List Value} {q : Fin 4} {i : Nat} (cx : CX l0 Γ cc own nL R0) (hi : (q : Nat) = i) (hl : ls[i]? = some (some .null)) (d : decode cc pc = .ok (.aload_n q, 1)) (k : G Γ σ kc ks (pc + 1) ls (.null :: st)) : G Γ σ kc ks pc ls st := by
  obtain ⟨p, l, e, R, s, m, args, below, meth, c, A, D, dA, Q⟩ := Γ
  obtain ⟨hx, hb, hml, hown, hts, hK, hAA, hlk, hl0, hR0, hZ, hE⟩ := cx
  intro H locs la hP hA hS hL
  exact lv_aload_nN hx hb d hi (hL.2.2 _ _ hl).1 (k H locs la hP hA hS hL)

theorem g_istore_n {l0 : Launch} {Γ : gC} {cc : ByteArray} {own : String} {nL : Nat} {R0 : Room} {σ : hS} {kc ks pc : Nat} {ls : gLs} {st : List Value} {q : Fin 4} {i : Nat} {x : Int32} (cx : CX l0 Γ cc own nL R0) (hi : (q : Nat) = i) (hn : i < ls.length) (d : decode cc pc = .ok (.istore_n q, 1)) (k : G Γ σ kc ks (pc + 1) (ls.set i (some (.int x))) st) : G Γ σ kc ks pc ls (.int x :: st) := by
  obtain ⟨p, l, e, R, s, m, args, below, meth, c, A, D, dA, Q⟩ := Γ
  obtain ⟨hx, hb, hml, hown, hts, hK, hAA, hlk, hl0, hR0, hZ, hE⟩ := cx
  intro H locs la hP hA hS hL
  exact lv_istore_n hx hb d hi hL.has hn rfl (fun la' hl' => k H locs la' hP hA hS (hL.store hn rfl hl'))

theorem g_istore {l0 : Launch} {Γ : gC} {cc : ByteArray} {own : String} {nL : Nat} {R0 : Room} {σ : hS} {kc ks pc : Nat} {ls : gLs} {st : List Value} {i : Nat} {x : Int32} (cx : CX l0 Γ cc own nL R0) (hn : i < ls.length) (d : decode cc pc = .ok (.istore i, 2)) (k : G Γ σ kc ks (pc + 2) (ls.set i (some (.int x))) st) : G Γ σ kc ks pc ls (.int x :: st) := by
  obtain ⟨p, l, e, R, s, m, args, below, meth, c, A, D, dA, Q⟩ := Γ
  obtain ⟨hx, hb, hml, hown, hts, hK, hAA, hlk, hl0, hR0, hZ, hE⟩ := cx
  intro H locs la hP hA hS hL
  exact lv_istore hx hb d hL.has hn rfl (fun la' hl' => k H locs la' hP hA hS (hL.store hn rfl hl'))

theorem g_astore_n {l0 : Launch} {Γ : gC} {cc : ByteArray} {own : String} {nL : Nat} {R0 : Room} {σ : hS} {kc ks pc : Nat} {ls : gLs} {st : List Value} {q : Fin 4} {i : Nat} {x : Nat} (cx : CX l0 Γ cc own nL R0) (hi : (q : Nat) = i) (hn : i < ls.length) (d : decode cc pc = .ok (.astore_n q, 1)) (k : G Γ σ kc ks (pc + 1) (ls.set i (some (.ref x))) st) : G Γ σ kc ks pc ls (.ref x :: st) := by
  obtain ⟨p, l, e, R, s, m, args, below, meth, c, A, D, dA, Q⟩ := Γ
  obtain ⟨hx, hb, hml, hown, hts, hK, hAA, hlk, hl0, hR0, hZ, hE⟩ := cx
  intro H locs la hP hA hS hL
  exact lv_astore_n hx hb d hi hL.has hn rfl (fun la' hl' => k H locs la' hP hA hS (hL.store hn rfl hl'))

theorem g_astore {l0 : Launch} {Γ : gC} {cc : ByteArray} {own : String} {nL : Nat} {R0 : Room} {σ : hS} {kc ks pc : Nat} {ls : gLs} {st : List Value} {i : Nat} {x : Nat} (cx : CX l0 Γ cc own nL R0) (hn : i < ls.length) (d : decode cc pc = .ok (.astore i, 2)) (k : G Γ σ kc ks (pc + 2) (ls.set i (some (.ref x))) st) : G Γ σ kc ks pc ls (.ref x :: st) := by
  obtain ⟨p, l, e, R, s, m, args, below, meth, c, A, D, dA, Q⟩ := Γ
  obtain ⟨hx, hb, hml, hown, hts, hK, hAA, hlk, hl0, hR0, hZ, hE⟩ := cx
  intro H locs la hP hA hS hL
  exact lv_astore hx hb d hL.has hn rfl (fun la' hl' => k H locs la' hP hA hS (hL.store hn rfl hl'))

theorem g_astore_nN {l0 : Launch} {Γ : gC} {cc : ByteArray} {own : String} {nL : Nat} {R0 : Room} {σ : hS} {kc ks pc : Nat} {ls : gLs} {st : List Value} {q : Fin 4} {i : Nat} (cx : CX l0 Γ cc own nL R0) (hi : (q : Nat) = i) (hn : i < ls.length) (d : decode cc pc = .ok (.astore_n q, 1)) (k : G Γ σ kc ks (pc + 1) (ls.set i (some (.null))) st) : G Γ σ kc ks pc ls (.null :: st) := by
  obtain ⟨p, l, e, R, s, m, args, below, meth, c, A, D, dA, Q⟩ := Γ
  obtain ⟨hx, hb, hml, hown, hts, hK, hAA, hlk, hl0, hR0, hZ, hE⟩ := cx
  intro H locs la hP hA hS hL
  exact lv_astore_nN hx hb d hi hL.has hn rfl (fun la' hl' => k H locs la' hP hA hS (hL.store hn rfl hl'))

theorem g_iinc {l0 : Launch} {Γ : gC} {cc : ByteArray} {own : String} {nL : Nat} {R0 : Room} {σ : hS} {kc ks pc : Nat} {ls : gLs} {st : List Value} {i : Nat} {z : Int} {x v : Int32} (cx : CX l0 Γ cc own nL R0) (hl : ls[i]? = some (some (.int x))) (hv : x + Int32.ofInt z = v) (d : decode cc pc = .ok (.iinc i z, 3)) (k : G Γ σ kc ks (pc + 3) (ls.set i (some (.int v))) st) : G Γ σ kc ks pc ls st := by
  obtain ⟨p, l, e, R, s, m, args, below, meth, c, A, D, dA, Q⟩ := Γ
  obtain ⟨hx, hb, hml, hown, hts, hK, hAA, hlk, hl0, hR0, hZ, hE⟩ := cx
  intro H locs la hP hA hS hL
  have hn : i < ls.length := (List.getElem?_eq_some_iff.mp hl).1
  obtain ⟨j, hj⟩ := List.getElem?_of_mem (gps_mem.mpr hl)
  exact lv_iinc hx hb d hL.has (k := j) hj hv hn rfl (fun la' hl' => k H locs la' hP hA hS (hL.store hn rfl hl'))

theorem g_if_eq {l0 : Launch} {Γ : gC} {cc : ByteArray} {own : String} {nL : Nat} {R0 : Room} {σ : hS} {kc ks pc : Nat} {ls : gLs} {st : List Value} {x : Int32} {off : Int} {tgt : Nat} (cx : CX l0 Γ cc own nL R0) (ht : (pc : Int) + off = (tgt : Int)) (d : decode cc pc = .ok (.ifCond .eq off, 3)) (k1 : x = 0 → G Γ σ kc ks tgt ls st) (k2 : ¬ x = 0 → G Γ σ kc ks (pc + 3) ls st) : G Γ σ kc ks pc ls (.int x :: st) := by
  obtain ⟨p, l, e, R, s, m, args, below, meth, c, A, D, dA, Q⟩ := Γ
  obtain ⟨hx, hb, hml, hown, hts, hK, hAA, hlk, hl0, hR0, hZ, hE⟩ := cx
  intro H locs la hP hA hS hL
  exact lv_if_eq hx hb d ht (fun q => k1 (by first | exact q | simpa using q) H locs la hP hA hS hL) (fun q => k2 (by first | exact q | simpa using q) H locs la hP hA hS hL)

theorem g_if_ne {l0 : Launch} {Γ : gC} {cc : ByteArray} {own : String} {nL : Nat} {R0 : Room} {σ : hS} {kc ks pc : Nat} {ls : gLs} {st : List Value} {x : Int32} {off : Int} {tgt : Nat} (cx : CX l0 Γ cc own nL R0) (ht : (pc : Int) + off = (tgt : Int)) (d : decode cc pc = .ok (.ifCond .ne off, 3)) (k1 : ¬ x = 0 → G Γ σ kc ks tgt ls st) (k2 : x = 0 → G Γ σ kc ks (pc + 3) ls st) : G Γ σ kc ks pc ls (.int x :: st) := by
  obtain ⟨p, l, e, R, s, m, args, below, meth, c, A, D, dA, Q⟩ := Γ
  obtain ⟨hx, hb, hml, hown, hts, hK, hAA, hlk, hl0, hR0, hZ, hE⟩ := cx
  intro H locs la hP hA hS hL
  exact lv_if_ne hx hb d ht (fun q => k1 (by first | exact q | simpa using q) H locs la hP hA hS hL) (fun q => k2 (by first | exact q | simpa using q) H locs la hP hA hS hL)

theorem g_if_lt {l0 : Launch} {Γ : gC} {cc : ByteArray} {own : String} {nL : Nat} {R0 : Room} {σ : hS} {kc ks pc : Nat} {ls : gLs} {st : List Value} {x : Int32} {off : Int} {tgt : Nat} (cx : CX l0 Γ cc own nL R0) (ht : (pc : Int) + off = (tgt : Int)) (d : decode cc pc = .ok (.ifCond .lt off, 3)) (k1 : x < 0 → G Γ σ kc ks tgt ls st) (k2 : ¬ x < 0 → G Γ σ kc ks (pc + 3) ls st) : G Γ σ kc ks pc ls (.int x :: st) := by
  obtain ⟨p, l, e, R, s, m, args, below, meth, c, A, D, dA, Q⟩ := Γ
  obtain ⟨hx, hb, hml, hown, hts, hK, hAA, hlk, hl0, hR0, hZ, hE⟩ := cx
  intro H locs la hP hA hS hL
  exact lv_if_lt hx hb d ht (fun q => k1 (by first | exact q | simpa using q) H locs la hP hA hS hL) (fun q => k2 (by first | exact q | simpa using q) H locs la hP hA hS hL)

theorem g_if_ge {l0 : Launch} {Γ : gC} {cc : ByteArray} {own : String} {nL : Nat} {R0 : Room} {σ : hS} {kc ks pc : Nat} {ls : gLs} {st : List Value} {x : Int32} {off : Int} {tgt : Nat} (cx : CX l0 Γ cc own nL R0) (ht : (pc : Int) + off = (tgt : Int)) (d : decode cc pc = .ok (.ifCond .ge off, 3)) (k1 : 0 ≤ x → G Γ σ kc ks tgt ls st) (k2 : ¬ 0 ≤ x → G Γ σ kc ks (pc + 3) ls st) : G Γ σ kc ks pc ls (.int x :: st) := by
  obtain ⟨p, l, e, R, s, m, args, below, meth, c, A, D, dA, Q⟩ := Γ
  obtain ⟨hx, hb, hml, hown, hts, hK, hAA, hlk, hl0, hR0, hZ, hE⟩ := cx
  intro H locs la hP hA hS hL
  exact lv_if_ge hx hb d ht (fun q => k1 (by first | exact q | simpa using q) H locs la hP hA hS hL) (fun q => k2 (by first | exact q | simpa using q) H locs la hP hA hS hL)

theorem g_if_gt {l0 : Launch} {Γ : gC} {cc : ByteArray} {own : String} {nL : Nat} {R0 : Room} {σ : hS} {kc ks pc : Nat} {ls : gLs} {st : List Value} {x : Int32} {off : Int} {tgt : Nat} (cx : CX l0 Γ cc own nL R0) (ht : (pc : Int) + off = (tgt : Int)) (d : decode cc pc = .ok (.ifCond .gt off, 3)) (k1 : 0 < x → G Γ σ kc ks tgt ls st) (k2 : ¬ 0 < x → G Γ σ kc ks (pc + 3) ls st) : G Γ σ kc ks pc ls (.int x :: st) := by
  obtain ⟨p, l, e, R, s, m, args, below, meth, c, A, D, dA, Q⟩ := Γ
  obtain ⟨hx, hb, hml, hown, hts, hK, hAA, hlk, hl0, hR0, hZ, hE⟩ := cx
  intro H locs la hP hA hS hL
  exact lv_if_gt hx hb d ht (fun q => k1 (by first | exact q | simpa using q) H locs la hP hA hS hL) (fun q => k2 (by first | exact q | simpa using q) H locs la hP hA hS hL)

theorem g_if_le {l0 : Launch} {Γ : gC} {cc : ByteArray} {own : String} {nL : Nat} {R0 : Room} {σ : hS} {kc ks pc : Nat} {ls : gLs} {st : List Value} {x : Int32} {off : Int} {tgt : Nat} (cx : CX l0 Γ cc own nL R0) (ht : (pc : Int) + off = (tgt : Int)) (d : decode cc pc = .ok (.ifCond .le off, 3)) (k1 : x ≤ 0 → G Γ σ kc ks tgt ls st) (k2 : ¬ x ≤ 0 → G Γ σ kc ks (pc + 3) ls st) : G Γ σ kc ks pc ls (.int x :: st) := by
  obtain ⟨p, l, e, R, s, m, args, below, meth, c, A, D, dA, Q⟩ := Γ
  obtain ⟨hx, hb, hml, hown, hts, hK, hAA, hlk, hl0, hR0, hZ, hE⟩ := cx
  intro H locs la hP hA hS hL
  exact lv_if_le hx hb d ht (fun q => k1 (by first | exact q | simpa using q) H locs la hP hA hS hL) (fun q => k2 (by first | exact q | simpa using q) H locs la hP hA hS hL)

theorem g_icmp_eq {l0 : Launch} {Γ : gC} {cc : ByteArray} {own : String} {nL : Nat} {R0 : Room} {σ : hS} {kc ks pc : Nat} {ls : gLs} {st : List Value} {x y : Int32} {off : Int} {tgt : Nat} (cx : CX l0 Γ cc own nL R0) (ht : (pc : Int) + off = (tgt : Int)) (d : decode cc pc = .ok (.if_icmp .eq off, 3)) (k1 : x = y → G Γ σ kc ks tgt ls st) (k2 : ¬ x = y → G Γ σ kc ks (pc + 3) ls st) : G Γ σ kc ks pc ls (.int y :: .int x :: st) := by
  obtain ⟨p, l, e, R, s, m, args, below, meth, c, A, D, dA, Q⟩ := Γ
  obtain ⟨hx, hb, hml, hown, hts, hK, hAA, hlk, hl0, hR0, hZ, hE⟩ := cx
  intro H locs la hP hA hS hL
  exact lv_icmp_eq hx hb d ht (fun q => k1 (by first | exact q | simpa using q) H locs la hP hA hS hL) (fun q => k2 (by first | exact q | simpa using q) H locs la hP hA hS hL)

theorem g_icmp_ne {l0 : Launch} {Γ : gC} {cc : ByteArray} {own : String} {nL : Nat} {R0 : Room} {σ : hS} {kc ks pc : Nat} {ls : gLs} {st : List Value} {x y : Int32} {off : Int} {tgt : Nat} (cx : CX l0 Γ cc own nL R0) (ht : (pc : Int) + off = (tgt : Int)) (d : decode cc pc = .ok (.if_icmp .ne off, 3)) (k1 : ¬ x = y → G Γ σ kc ks tgt ls st) (k2 : x = y → G Γ σ kc ks (pc + 3) ls st) : G Γ σ kc ks pc ls (.int y :: .int x :: st) := by
  obtain ⟨p, l, e, R, s, m, args, below, meth, c, A, D, dA, Q⟩ := Γ
  obtain ⟨hx, hb, hml, hown, hts, hK, hAA, hlk, hl0, hR0, hZ, hE⟩ := cx
  intro H locs la hP hA hS hL
  exact lv_icmp_ne hx hb d ht (fun q => k1 (by first | exact q | simpa using q) H locs la hP hA hS hL) (fun q => k2 (by first | exact q | simpa using q) H locs la hP hA hS hL)

theorem g_icmp_lt {l0 : Launch} {Γ : gC} {cc : ByteArray} {own : String} {nL : Nat} {R0 : Room} {σ : hS} {kc ks pc : Nat} {ls : gLs} {st : List Value} {x y : Int32} {off : Int} {tgt : Nat} (cx : CX l0 Γ cc own nL R0) (ht : (pc : Int) + off = (tgt : Int)) (d : decode cc pc = .ok (.if_icmp .lt off, 3)) (k1 : x < y → G Γ σ kc ks tgt ls st) (k2 : ¬ x < y → G Γ σ kc ks (pc + 3) ls st) : G Γ σ kc ks pc ls (.int y :: .int x :: st) := by
  obtain ⟨p, l, e, R, s, m, args, below, meth, c, A, D, dA, Q⟩ := Γ
  obtain ⟨hx, hb, hml, hown, hts, hK, hAA, hlk, hl0, hR0, hZ, hE⟩ := cx
  intro H locs la hP hA hS hL
  exact lv_icmp_lt hx hb d ht (fun q => k1 (by first | exact q | simpa using q) H locs la hP hA hS hL) (fun q => k2 (by first | exact q | simpa using q) H locs la hP hA hS hL)

theorem g_icmp_ge {l0 : Launch} {Γ : gC} {cc : ByteArray} {own : String} {nL : Nat} {R0 : Room} {σ : hS} {kc ks pc : Nat} {ls : gLs} {st : List Value} {x y : Int32} {off : Int} {tgt : Nat} (cx : CX l0 Γ cc own nL R0) (ht : (pc : Int) + off = (tgt : Int)) (d : decode cc pc = .ok (.if_icmp .ge off, 3)) (k1 : y ≤ x → G Γ σ kc ks tgt ls st) (k2 : ¬ y ≤ x → G Γ σ kc ks (pc + 3) ls st) : G Γ σ kc ks pc ls (.int y :: .int x :: st) := by
  obtain ⟨p, l, e, R, s, m, args, below, meth, c, A, D, dA, Q⟩ := Γ
  obtain ⟨hx, hb, hml, hown, hts, hK, hAA, hlk, hl0, hR0, hZ, hE⟩ := cx
  intro H locs la hP hA hS hL
  exact lv_icmp_ge hx hb d ht (fun q => k1 (by first | exact q | simpa using q) H locs la hP hA hS hL) (fun q => k2 (by first | exact q | simpa using q) H locs la hP hA hS hL)

theorem g_icmp_gt {l0 : Launch} {Γ : gC} {cc : ByteArray} {own : String} {nL : Nat} {R0 : Room} {σ : hS} {kc ks pc : Nat} {ls : gLs} {st : List Value} {x y : Int32} {off : Int} {tgt : Nat} (cx : CX l0 Γ cc own nL R0) (ht : (pc : Int) + off = (tgt : Int)) (d : decode cc pc = .ok (.if_icmp .gt off, 3)) (k1 : y < x → G Γ σ kc ks tgt ls st) (k2 : ¬ y < x → G Γ σ kc ks (pc + 3) ls st) : G Γ σ kc ks pc ls (.int y :: .int x :: st) := by
  obtain ⟨p, l, e, R, s, m, args, below, meth, c, A, D, dA, Q⟩ := Γ
  obtain ⟨hx, hb, hml, hown, hts, hK, hAA, hlk, hl0, hR0, hZ, hE⟩ := cx
  intro H locs la hP hA hS hL
  exact lv_icmp_gt hx hb d ht (fun q => k1 (by first | exact q | simpa using q) H locs la hP hA hS hL) (fun q => k2 (by first | exact q | simpa using q) H locs la hP hA hS hL)

theorem g_icmp_le {l0 : Launch} {Γ : gC} {cc : ByteArray} {own : String} {nL : Nat} {R0 : Room} {σ : hS} {kc ks pc : Nat} {ls : gLs} {st : List Value} {x y : Int32} {off : Int} {tgt : Nat} (cx : CX l0 Γ cc own nL R0) (ht : (pc : Int) + off = (tgt : Int)) (d : decode cc pc = .ok (.if_icmp .le off, 3)) (k1 : x ≤ y → G Γ σ kc ks tgt ls st) (k2 : ¬ x ≤ y → G Γ σ kc ks (pc + 3) ls st) : G Γ σ kc ks pc ls (.int y :: .int x :: st) := by
  obtain ⟨p, l, e, R, s, m, args, below, meth, c, A, D, dA, Q⟩ := Γ
  obtain ⟨hx, hb, hml, hown, hts, hK, hAA, hlk, hl0, hR0, hZ, hE⟩ := cx
  intro H locs la hP hA hS hL
  exact lv_icmp_le hx hb d ht (fun q => k1 (by first | exact q | simpa using q) H locs la hP hA hS hL) (fun q => k2 (by first | exact q | simpa using q) H locs la hP hA hS hL)

theorem g_goto {l0 : Launch} {Γ : gC} {cc : ByteArray} {own : String} {nL : Nat} {R0 : Room} {σ : hS} {kc ks pc : Nat} {ls : gLs} {st : List Value} {off : Int} {tgt : Nat} (cx : CX l0 Γ cc own nL R0) (ht : (pc : Int) + off = (tgt : Int)) (d : decode cc pc = .ok (.goto off, 3)) (k : G Γ σ kc ks tgt ls st) : G Γ σ kc ks pc ls st := by
  obtain ⟨p, l, e, R, s, m, args, below, meth, c, A, D, dA, Q⟩ := Γ
  obtain ⟨hx, hb, hml, hown, hts, hK, hAA, hlk, hl0, hR0, hZ, hE⟩ := cx
  intro H locs la hP hA hS hL
  exact lv_goto hx hb d ht (k H locs la hP hA hS hL)

theorem g_ifnull {l0 : Launch} {Γ : gC} {cc : ByteArray} {own : String} {nL : Nat} {R0 : Room} {σ : hS} {kc ks pc : Nat} {ls : gLs} {st : List Value} {x : Nat} {off : Int} (cx : CX l0 Γ cc own nL R0) (d : decode cc pc = .ok (.ifnull off, 3)) (k : G Γ σ kc ks (pc + 3) ls st) : G Γ σ kc ks pc ls (.ref x :: st) := by
  obtain ⟨p, l, e, R, s, m, args, below, meth, c, A, D, dA, Q⟩ := Γ
  obtain ⟨hx, hb, hml, hown, hts, hK, hAA, hlk, hl0, hR0, hZ, hE⟩ := cx
  intro H locs la hP hA hS hL
  exact lv_ifnull hx hb d (k H locs la hP hA hS hL)

theorem g_ifnullN {l0 : Launch} {Γ : gC} {cc : ByteArray} {own : String} {nL : Nat} {R0 : Room} {σ : hS} {kc ks pc : Nat} {ls : gLs} {st : List Value} {off : Int} {tgt : Nat} (cx : CX l0 Γ cc own nL R0) (ht : (pc : Int) + off = (tgt : Int)) (d : decode cc pc = .ok (.ifnull off, 3)) (k : G Γ σ kc ks tgt ls st) : G Γ σ kc ks pc ls (.null :: st) := by
  obtain ⟨p, l, e, R, s, m, args, below, meth, c, A, D, dA, Q⟩ := Γ
  obtain ⟨hx, hb, hml, hown, hts, hK, hAA, hlk, hl0, hR0, hZ, hE⟩ := cx
  intro H locs la hP hA hS hL
  exact lv_ifnullN hx hb d ht (k H locs la hP hA hS hL)

theorem g_ifnonnull {l0 : Launch} {Γ : gC} {cc : ByteArray} {own : String} {nL : Nat} {R0 : Room} {σ : hS} {kc ks pc : Nat} {ls : gLs} {st : List Value} {x : Nat} {off : Int} {tgt : Nat} (cx : CX l0 Γ cc own nL R0) (ht : (pc : Int) + off = (tgt : Int)) (d : decode cc pc = .ok (.ifnonnull off, 3)) (k : G Γ σ kc ks tgt ls st) : G Γ σ kc ks pc ls (.ref x :: st) := by
  obtain ⟨p, l, e, R, s, m, args, below, meth, c, A, D, dA, Q⟩ := Γ
  obtain ⟨hx, hb, hml, hown, hts, hK, hAA, hlk, hl0, hR0, hZ, hE⟩ := cx
  intro H locs la hP hA hS hL
  exact lv_ifnonnull hx hb d ht (k H locs la hP hA hS hL)

theorem g_ifnonnullN {l0 : Launch} {Γ : gC} {cc : ByteArray} {own : String} {nL : Nat} {R0 : Room} {σ : hS} {kc ks pc : Nat} {ls : gLs} {st : List Value} {off : Int} (cx : CX l0 Γ cc own nL R0) (d : decode cc pc = .ok (.ifnonnull off, 3)) (k : G Γ σ kc ks (pc + 3) ls st) : G Γ σ kc ks pc ls (.null :: st) := by
  obtain ⟨p, l, e, R, s, m, args, below, meth, c, A, D, dA, Q⟩ := Γ
  obtain ⟨hx, hb, hml, hown, hts, hK, hAA, hlk, hl0, hR0, hZ, hE⟩ := cx
  intro H locs la hP hA hS hL
  exact lv_ifnonnullN hx hb d (k H locs la hP hA hS hL)

theorem g_ireturn {l0 : Launch} {Γ : gC} {cc : ByteArray} {own : String} {nL : Nat} {R0 : Room} {σ : hS} {kc ks pc : Nat} {ls : gLs} {x : Int32} {rm : Room} {Post : Option Value → hS → Prop} {PX : String → hS → Prop} (cx : CX l0 Γ cc own nL R0) (rx : RX Γ (some .int) rm Post PX) (hk : kc ≤ rm.cells) (hs : ks ≤ rm.slots) (d : decode cc pc = .ok (.ireturn, 1)) (hp : Post (some (.int x)) σ) : G Γ σ kc ks pc ls [.int x] := by
  obtain ⟨p, l, e, R, s, m, args, below, meth, c, A, D, dA, Q⟩ := Γ
  obtain ⟨hx, hb, hml, hown, hts, hK, hAA, hlk, hl0, hR0, hZ, hE⟩ := cx
  obtain ⟨hr, σ0, sz, rfl, rfl⟩ := rx
  intro H locs la hP hA hS hL
  exact W.widen hk hs (vx_ret (W.iret hx hb hr (fun t ht _ => ⟨_, σ, rfl, hp, by rw [ht]; exact hP, hA, hS.F ht⟩) (fun z hz => hS.2.2 z hz) d (hlocks := hlk)))

theorem g_zreturn {l0 : Launch} {Γ : gC} {cc : ByteArray} {own : String} {nL : Nat} {R0 : Room} {σ : hS} {kc ks pc : Nat} {ls : gLs} {x : Int32} {rm : Room} {Post : Option Value → hS → Prop} {PX : String → hS → Prop} (cx : CX l0 Γ cc own nL R0) (rx : RX Γ (some .boolean) rm Post PX) (hk : kc ≤ rm.cells) (hs : ks ≤ rm.slots) (hnz : narrow .boolean (.int x) = .int x) (d : decode cc pc = .ok (.ireturn, 1)) (hp : Post (some (.int x)) σ) : G Γ σ kc ks pc ls [.int x] := by
  obtain ⟨p, l, e, R, s, m, args, below, meth, c, A, D, dA, Q⟩ := Γ
  obtain ⟨hx, hb, hml, hown, hts, hK, hAA, hlk, hl0, hR0, hZ, hE⟩ := cx
  obtain ⟨hr, σ0, sz, rfl, rfl⟩ := rx
  intro H locs la hP hA hS hL
  exact W.widen hk hs (vx_ret (W.zret hx hb hr hnz (fun t ht _ => ⟨_, σ, rfl, hp, by rw [ht]; exact hP, hA, hS.F ht⟩) (fun z hz => hS.2.2 z hz) d (hlocks := hlk)))

theorem g_return {l0 : Launch} {Γ : gC} {cc : ByteArray} {own : String} {nL : Nat} {R0 : Room} {σ : hS} {kc ks pc : Nat} {ls : gLs} {rm : Room} {Post : Option Value → hS → Prop} {PX : String → hS → Prop} (cx : CX l0 Γ cc own nL R0) (rx : RX Γ none rm Post PX) (hk : kc ≤ rm.cells) (hs : ks ≤ rm.slots) (d : decode cc pc = .ok (.return_, 1)) (hp : Post none σ) : G Γ σ kc ks pc ls [] := by
  obtain ⟨p, l, e, R, s, m, args, below, meth, c, A, D, dA, Q⟩ := Γ
  obtain ⟨hx, hb, hml, hown, hts, hK, hAA, hlk, hl0, hR0, hZ, hE⟩ := cx
  obtain ⟨hr, σ0, sz, rfl, rfl⟩ := rx
  intro H locs la hP hA hS hL
  exact W.widen hk hs (vx_ret (W.vret hx hb hr (fun t ht _ => ⟨_, σ, rfl, hp, by rw [ht]; exact hP, hA, hS.F ht⟩) (fun z hz => hS.2.2 z hz) d (hlocks := hlk)))

theorem g_areturn {l0 : Launch} {Γ : gC} {cc : ByteArray} {own : String} {nL : Nat} {R0 : Room} {σ : hS} {kc ks pc : Nat} {ls : gLs} {x : Nat} {rt : FieldType} {rm : Room} {Post : Option Value → hS → Prop} {PX : String → hS → Prop} (cx : CX l0 Γ cc own nL R0) (rx : RX Γ (some rt) rm Post PX) (hk : kc ≤ rm.cells) (hs : ks ≤ rm.slots) (hrt : (∃ n, rt = .object n) ∨ ∃ t, rt = .array t) (d : decode cc pc = .ok (.areturn, 1)) (hp : Post (some (.ref x)) σ) : G Γ σ kc ks pc ls [.ref x] := by
  obtain ⟨p, l, e, R, s, m, args, below, meth, c, A, D, dA, Q⟩ := Γ
  obtain ⟨hx, hb, hml, hown, hts, hK, hAA, hlk, hl0, hR0, hZ, hE⟩ := cx
  obtain ⟨hr, σ0, sz, rfl, rfl⟩ := rx
  intro H locs la hP hA hS hL
  exact W.widen hk hs (vx_ret (W.aret hx hb hr hrt (Or.inr ⟨_, rfl⟩) (fun t ht _ => ⟨_, σ, rfl, hp, by rw [ht]; exact hP, hA, hS.F ht⟩) (fun z hz => hS.2.2 z hz) d (hlocks := hlk)))

def gFt (ci k : Nat) : FieldType := gty ci k
def gFin (ci k : Nat) : Bool := match gcl[ci]? with
  | some r => (r.2.1 k).2.2.2
  | none => false
theorem g_getf {l0 : Launch} {Γ : gC} {cc : ByteArray} {own : String} {nL : Nat} {R0 : Room} {σ : hS} {kc ks pc : Nat} {ls : gLs} {st : List Value} {idx ci k a : Nat} {fs : List Value} {v : Value} (cx : CX l0 Γ cc own nL R0) (hf : gF own idx ci k) (hσ : σ a = some (.inr (ci, fs))) (hv : fs[k]? = some v) (d : decode cc pc = .ok (.getfield idx, 3)) (kk : G Γ σ kc ks (pc + 3) ls (v :: st)) : G Γ σ kc ks pc ls (.ref a :: st) := by
  obtain ⟨p, l, e, R, s, m, args, below, meth, c, A, D, dA, Q⟩ := Γ
  obtain ⟨hx, hb, hml, hown, hts, hK, hAA, hlk, hl0, hR0, hZ, hE⟩ := cx
  intro H locs la hP hA hS hL
  obtain ⟨⟨C, T, N⟩, hr, hk, hw⟩ := hf
  obtain ⟨h1, h2, h3⟩ := gOk_all ci _ hr
  exact va_get hx hb hts h1 hown hK (hP.one hσ) 0 rfl hr k hk (hts _ hw) (fun _ h => h) hv d (kk H locs la hP hA hS hL)

theorem g_putf {l0 : Launch} {Γ : gC} {cc : ByteArray} {own : String} {nL : Nat} {R0 : Room} {σ : hS} {kc ks pc : Nat} {ls : gLs} {st : List Value} {idx ci k a : Nat} {fs : List Value} {v : Value} (cx : CX l0 Γ cc own nL R0) (hf : gF own idx ci k) (hfin : gFin ci k = false) (hσ : σ a = some (.inr (ci, fs))) (hl : k < fs.length) (hn : narrow (gty ci k) v = v) (hfit : fits (gty ci k) v = true) (d : decode cc pc = .ok (.putfield idx, 3)) (kk : G Γ (hup σ a (.inr (ci, fs.set k v))) kc ks (pc + 3) ls st) : G Γ σ kc ks pc ls (v :: .ref a :: st) := by
  obtain ⟨p, l, e, R, s, m, args, below, meth, c, A, D, dA, Q⟩ := Γ
  obtain ⟨hx, hb, hml, hown, hts, hK, hAA, hlk, hl0, hR0, hZ, hE⟩ := cx
  intro H locs la hP hA hS hL
  obtain ⟨⟨C, T, N⟩, hr, hk, hw⟩ := hf
  obtain ⟨h1, h2, h3⟩ := gOk_all ci _ hr
  have hfin' : (T k).2.2.2 = false := by
    unfold gFin at hfin
    rw [hr] at hfin
    exact hfin
  have hap := va_apart (own := own) hts h1 (gty ci) h2 h3 hK hr
  obtain ⟨r, g1, cell, q1, q2, q3, q4⟩ := hP a _ hσ
  have hre : r = (C, T, N) := Option.some.inj (g1.symm.trans hr)
  subst hre
  obtain ⟨hSl, hfc, kC, hkC, hkind⟩ := hK.1 ci _ hr
  obtain ⟨cf, kf, fi, f, hi, hsl⟩ := hSl k hk
  have hlay := hts _ (h1 _ (u_in_lay hk))
  unfold u_lay at hlay
  rw [if_neg (by rw [hfin']; decide)] at hlay
  have hst := (u_facts hfc hkC (u_lays hts h1 hk) hi).1
  have h6 := u_store hfc hkC hkind hlay hi (h2 k hk) hn hfit
  refine W.putK hx hb (f := f) ⟨hown, hts _ hw, ⟨_, _, _, hi⟩, hst⟩ (by rw [q2]; exact h6) q1 q3 (by rw [hsl]; exact k2_hasslot (q4 k hk)) rfl rfl d fun H' e1 e2 e3 => ?_
  rw [hsl] at e1 ⊢
  refine kk H' _ la (hP.put ⟨_, hr, t_OB.to (V := updV (vp_V fs) k v) ⟨_, e1, q2, q3, t_set q4 hap hk v⟩ (fun j _ => vp_updV_set hl v j)⟩ e3) (fun b e' hb' => ?_) (hS.put e2 e3 (hA a _ hσ)) hL
  by_cases hba : b = a
  · subst hba; exact hA b _ hσ
  · rw [hup_n hba] at hb'; exact hA b _ hb'

def gIni (Γ : gC) : Prop := Γ.2.2.2.2.2.2.2.2.1.name = "<init>"

theorem g_putF {l0 : Launch} {Γ : gC} {cc : ByteArray} {own : String} {nL : Nat} {R0 : Room} {σ : hS} {kc ks pc : Nat} {ls : gLs} {st : List Value} {idx ci k a : Nat} {fs : List Value} {v : Value} (cx : CX l0 Γ cc own nL R0) (hini : gIni Γ) (hdc : ∃ r, gcl[ci]? = some r ∧ (r.2.1 k).1 = own) (hf : gF own idx ci k) (hfin : gFin ci k = true) (hσ : σ a = some (.inr (ci, fs))) (hl : k < fs.length) (hn : narrow (gty ci k) v = v) (hfit : fits (gty ci k) v = true) (d : decode cc pc = .ok (.putfield idx, 3)) (kk : G Γ (hup σ a (.inr (ci, fs.set k v))) kc ks (pc + 3) ls st) : G Γ σ kc ks pc ls (v :: .ref a :: st) := by
  obtain ⟨p, l, e, R, s, m, args, below, meth, c, A, D, dA, Q⟩ := Γ
  obtain ⟨hx, hb, hml, hown, hts, hK, hAA, hlk, hl0, hR0, hZ, hE⟩ := cx
  intro H locs la hP hA hS hL
  obtain ⟨⟨C, T, N⟩, hr, hk, hw⟩ := hf
  obtain ⟨h1, h2, h3⟩ := gOk_all ci _ hr
  have hfin' : (T k).2.2.2 = true := by
    unfold gFin at hfin
    rw [hr] at hfin
    exact hfin
  have hap := va_apart (own := own) hts h1 (gty ci) h2 h3 hK hr
  obtain ⟨r, g1, cell, q1, q2, q3, q4⟩ := hP a _ hσ
  have hre : r = (C, T, N) := Option.some.inj (g1.symm.trans hr)
  subst hre
  obtain ⟨hSl, hfc, kC, hkC, hkind⟩ := hK.1 ci _ hr
  obtain ⟨cf, kf, fi, f, hi, hsl⟩ := hSl k hk
  have hlay := hts _ (h1 _ (u_in_lay hk))
  unfold u_lay at hlay
  rw [if_pos hfin'] at hlay
  have hst := (u_facts hfc hkC (u_lays hts h1 hk) hi).1
  have hcf : m.cls = cf := by
    obtain ⟨_, _, c', _, _, _, -, -, hf', -, -, -, hown2, -⟩ := Cond.laysFinal_spec hlay
    have e1 : c' = cf := by have := hi.symm.trans hf'; simp at this; exact this.1.symm
    obtain ⟨r', hr', hd'⟩ := hdc
    have hre : r' = (C, T, N) := Option.some.inj (hr'.symm.trans hr)
    subst hre
    rw [show (T k).1 = own from hd'] at hown2
    rw [← e1]; exact Option.some.inj (hown.symm.trans hown2)
  have h6 := u_fits hfc hkC hkind (Or.inr hlay) hi (h2 k hk) hn hfit
  refine W.putFinK hx hb hown (hts _ hw) hi hst hcf hini (by rw [q2]; exact h6) q1 q3 (by rw [hsl]; exact k2_hasslot (q4 k hk)) rfl rfl d fun H' e1 e2 e3 => ?_
  rw [hsl] at e1 ⊢
  refine kk H' _ la (hP.put ⟨_, hr, t_OB.to (V := updV (vp_V fs) k v) ⟨_, e1, q2, q3, t_set q4 hap hk v⟩ (fun j _ => vp_updV_set hl v j)⟩ e3) (fun b e' hb' => ?_) (hS.put e2 e3 (hA a _ hσ)) hL
  by_cases hba : b = a
  · subst hba; exact hA b _ hσ
  · rw [hup_n hba] at hb'; exact hA b _ hb'

theorem g_iald {l0 : Launch} {Γ : gC} {cc : ByteArray} {own : String} {nL : Nat} {R0 : Room} {σ : hS} {kc ks pc : Nat} {ls : gLs} {st : List Value} {a N : Nat} {f : Nat → Int32} {i : Int32} (cx : CX l0 Γ cc own nL R0) (hσ : σ a = some (.inl (gdA Γ 0, N, .inl f))) (hin : vp_in i N) (d : decode cc pc = .ok (.iaload, 1)) (kk : G Γ σ kc ks (pc + 1) ls (.int (f i.toNatClampNeg) :: st)) : G Γ σ kc ks pc ls (.int i :: .ref a :: st) := by
  obtain ⟨p, l, e, R, s, m, args, below, meth, c, A, D, dA, Q⟩ := Γ
  obtain ⟨hx, hb, hml, hown, hts, hK, hAA, hlk, hl0, hR0, hZ, hE⟩ := cx
  intro H locs la hP hA hS hL
  exact va_iald hx hb hK (hP.one hσ) 0 0 rfl rfl hin d (kk H locs la hP hA hS hL)

theorem g_zald {l0 : Launch} {Γ : gC} {cc : ByteArray} {own : String} {nL : Nat} {R0 : Room} {σ : hS} {kc ks pc : Nat} {ls : gLs} {st : List Value} {a N : Nat} {f : Nat → Int32} {i : Int32} (cx : CX l0 Γ cc own nL R0) (hσ : σ a = some (.inl (gdA Γ 1, N, .inl f))) (hin : vp_in i N) (d : decode cc pc = .ok (.baload, 1)) (kk : G Γ σ kc ks (pc + 1) ls (.int (f i.toNatClampNeg) :: st)) : G Γ σ kc ks pc ls (.int i :: .ref a :: st) := by
  obtain ⟨p, l, e, R, s, m, args, below, meth, c, A, D, dA, Q⟩ := Γ
  obtain ⟨hx, hb, hml, hown, hts, hK, hAA, hlk, hl0, hR0, hZ, hE⟩ := cx
  intro H locs la hP hA hS hL
  exact va_zald hx hb hK (hP.one hσ) 0 1 rfl rfl hin d (kk H locs la hP hA hS hL)

theorem g_lald {l0 : Launch} {Γ : gC} {cc : ByteArray} {own : String} {nL : Nat} {R0 : Room} {σ : hS} {kc ks pc : Nat} {ls : gLs} {st : List Value} {a N : Nat} {f : Nat → Int64} {i : Int32} (cx : CX l0 Γ cc own nL R0) (hσ : σ a = some (.inl (gdA Γ 7, N, .inr (.inl f)))) (hin : vp_in i N) (d : decode cc pc = .ok (.laload, 1)) (kk : G Γ σ kc ks (pc + 1) ls (.long (f i.toNatClampNeg) :: st)) : G Γ σ kc ks pc ls (.int i :: .ref a :: st) := by
  obtain ⟨p, l, e, R, s, m, args, below, meth, c, A, D, dA, Q⟩ := Γ
  obtain ⟨hx, hb, hml, hown, hts, hK, hAA, hlk, hl0, hR0, hZ, hE⟩ := cx
  intro H locs la hP hA hS hL
  exact va_lald hx hb hK (hP.one hσ) 0 7 rfl rfl hin d (kk H locs la hP hA hS hL)

theorem g_aald2 {l0 : Launch} {Γ : gC} {cc : ByteArray} {own : String} {nL : Nat} {R0 : Room} {σ : hS} {kc ks pc : Nat} {ls : gLs} {st : List Value} {a N : Nat} {f : Nat → Option Nat} {i : Int32} (cx : CX l0 Γ cc own nL R0) (hσ : σ a = some (.inl (gdA Γ 2, N, .inr (.inr (.inr (.inr f)))))) (hin : vp_in i N) (d : decode cc pc = .ok (.aaload, 1)) (kk : G Γ σ kc ks (pc + 1) ls (va_rf (f i.toNatClampNeg) :: st)) : G Γ σ kc ks pc ls (.int i :: .ref a :: st) := by
  obtain ⟨p, l, e, R, s, m, args, below, meth, c, A, D, dA, Q⟩ := Γ
  obtain ⟨hx, hb, hml, hown, hts, hK, hAA, hlk, hl0, hR0, hZ, hE⟩ := cx
  intro H locs la hP hA hS hL
  exact va_aldq hx hb hK (hP.one hσ) 0 2 rfl rfl hin d (kk H locs la hP hA hS hL)

theorem g_aald3 {l0 : Launch} {Γ : gC} {cc : ByteArray} {own : String} {nL : Nat} {R0 : Room} {σ : hS} {kc ks pc : Nat} {ls : gLs} {st : List Value} {a N : Nat} {f : Nat → Option Nat} {i : Int32} (cx : CX l0 Γ cc own nL R0) (hσ : σ a = some (.inl (gdA Γ 3, N, .inr (.inr (.inr (.inr f)))))) (hin : vp_in i N) (d : decode cc pc = .ok (.aaload, 1)) (kk : G Γ σ kc ks (pc + 1) ls (va_rf (f i.toNatClampNeg) :: st)) : G Γ σ kc ks pc ls (.int i :: .ref a :: st) := by
  obtain ⟨p, l, e, R, s, m, args, below, meth, c, A, D, dA, Q⟩ := Γ
  obtain ⟨hx, hb, hml, hown, hts, hK, hAA, hlk, hl0, hR0, hZ, hE⟩ := cx
  intro H locs la hP hA hS hL
  exact va_aldq hx hb hK (hP.one hσ) 0 3 rfl rfl hin d (kk H locs la hP hA hS hL)

theorem g_aald4 {l0 : Launch} {Γ : gC} {cc : ByteArray} {own : String} {nL : Nat} {R0 : Room} {σ : hS} {kc ks pc : Nat} {ls : gLs} {st : List Value} {a N : Nat} {f : Nat → Option Nat} {i : Int32} (cx : CX l0 Γ cc own nL R0) (hσ : σ a = some (.inl (gdA Γ 4, N, .inr (.inr (.inr (.inr f)))))) (hin : vp_in i N) (d : decode cc pc = .ok (.aaload, 1)) (kk : G Γ σ kc ks (pc + 1) ls (va_rf (f i.toNatClampNeg) :: st)) : G Γ σ kc ks pc ls (.int i :: .ref a :: st) := by
  obtain ⟨p, l, e, R, s, m, args, below, meth, c, A, D, dA, Q⟩ := Γ
  obtain ⟨hx, hb, hml, hown, hts, hK, hAA, hlk, hl0, hR0, hZ, hE⟩ := cx
  intro H locs la hP hA hS hL
  exact va_aldq hx hb hK (hP.one hσ) 0 4 rfl rfl hin d (kk H locs la hP hA hS hL)

theorem g_aald5 {l0 : Launch} {Γ : gC} {cc : ByteArray} {own : String} {nL : Nat} {R0 : Room} {σ : hS} {kc ks pc : Nat} {ls : gLs} {st : List Value} {a N : Nat} {f : Nat → Option Nat} {i : Int32} (cx : CX l0 Γ cc own nL R0) (hσ : σ a = some (.inl (gdA Γ 5, N, .inr (.inr (.inr (.inr f)))))) (hin : vp_in i N) (d : decode cc pc = .ok (.aaload, 1)) (kk : G Γ σ kc ks (pc + 1) ls (va_rf (f i.toNatClampNeg) :: st)) : G Γ σ kc ks pc ls (.int i :: .ref a :: st) := by
  obtain ⟨p, l, e, R, s, m, args, below, meth, c, A, D, dA, Q⟩ := Γ
  obtain ⟨hx, hb, hml, hown, hts, hK, hAA, hlk, hl0, hR0, hZ, hE⟩ := cx
  intro H locs la hP hA hS hL
  exact va_aldq hx hb hK (hP.one hσ) 0 5 rfl rfl hin d (kk H locs la hP hA hS hL)

theorem g_hA {A : Nat → Prop} {σ : hS} {a : Nat} {e0 e1 : va_E} (hA : ∀ b e, σ b = some e → A b) (hσ : σ a = some e0) : ∀ b e, hup σ a e1 b = some e → A b := fun b e hb => by
  by_cases hba : b = a
  · subst hba; exact hA b _ hσ
  · rw [hup_n hba] at hb; exact hA b _ hb
theorem g_len {l0 : Launch} {Γ : gC} {cc : ByteArray} {own : String} {nL : Nat} {R0 : Room} {σ : hS} {kc ks pc : Nat} {ls : gLs} {st : List Value} {a : Nat} {t : Nat} {ty : FieldType} {x : vp_A} {v : Int32} (cx : CX l0 Γ cc own nL R0) (hσ : σ a = some (.inl (gdA Γ t, x))) (ht : (tyL (gdA Γ))[t]? = some (gdA Γ t, ty)) (hv : Int32.ofNat x.1 = v) (d : decode cc pc = .ok (.arraylength, 1)) (kk : G Γ σ kc ks (pc + 1) ls (.int v :: st)) : G Γ σ kc ks pc ls (.ref a :: st) := by
  obtain ⟨p, l, e, R, s, m, args, below, meth, c, A, D, dA, Q⟩ := Γ
  obtain ⟨hx, hb, hml, hown, hts, hK, hAA, hlk, hl0, hR0, hZ, hE⟩ := cx
  intro H locs la hP hA hS hL
  exact va_alen hx hb hK (hP.one hσ) 0 t rfl ht hv d (kk H locs la hP hA hS hL)

theorem g_iast {l0 : Launch} {Γ : gC} {cc : ByteArray} {own : String} {nL : Nat} {R0 : Room} {σ : hS} {kc ks pc : Nat} {ls : gLs} {st : List Value} {a N : Nat} {f : Nat → Int32} {i : Int32} {x : Int32} (cx : CX l0 Γ cc own nL R0) (hσ : σ a = some (.inl (gdA Γ 0, N, .inl f))) (hin : vp_in i N) (d : decode cc pc = .ok (.iastore, 1)) (kk : G Γ (hup σ a (.inl (gdA Γ 0, N, .inl (upd f i.toNatClampNeg x)))) kc ks (pc + 1) ls st) : G Γ σ kc ks pc ls (.int x :: .int i :: .ref a :: st) := by
  obtain ⟨p, l, e, R, s, m, args, below, meth, c, A, D, dA, Q⟩ := Γ
  obtain ⟨hx, hb, hml, hown, hts, hK, hAA, hlk, hl0, hR0, hZ, hE⟩ := cx
  intro H locs la hP hA hS hL
  refine W.iast hx hb (hP a _ hσ) ((hK.2 0 _ rfl).1 N (fun j => .int (f j))) (fun q => by cases q) (by show ¬ (i < 0 ∨ (arrV _ _ _).slots.size ≤ _); rw [arrV_size]; exact hin) rfl rfl d fun H1 e z oq => ?_
  refine kk H1 _ la (hP.put ?_ oq) (g_hA hA hσ) (hS.put z oq (hA a _ hσ)) hL
  show H1[a]? = some (vp_cell _ _)
  rw [e]
  rw [vp_cell_i, vp_cell_i, arrV_store]
  congr 2
  funext q
  by_cases hq : q = i.toNatClampNeg
  · subst hq
    simp [updV, upd]
  · simp [updV, upd, hq]

theorem g_last {l0 : Launch} {Γ : gC} {cc : ByteArray} {own : String} {nL : Nat} {R0 : Room} {σ : hS} {kc ks pc : Nat} {ls : gLs} {st : List Value} {a N : Nat} {f : Nat → Int64} {i : Int32} {x : Int64} (cx : CX l0 Γ cc own nL R0) (hσ : σ a = some (.inl (gdA Γ 7, N, .inr (.inl f)))) (hin : vp_in i N) (d : decode cc pc = .ok (.lastore, 1)) (kk : G Γ (hup σ a (.inl (gdA Γ 7, N, .inr (.inl (vp_updL f i.toNatClampNeg x))))) kc ks (pc + 1) ls st) : G Γ σ kc ks pc ls (.long x :: .int i :: .ref a :: st) := by
  obtain ⟨p, l, e, R, s, m, args, below, meth, c, A, D, dA, Q⟩ := Γ
  obtain ⟨hx, hb, hml, hown, hts, hK, hAA, hlk, hl0, hR0, hZ, hE⟩ := cx
  intro H locs la hP hA hS hL
  refine W.last hx hb (hP a _ hσ) ((hK.2 7 _ rfl).1 N (fun j => .long (f j))) (fun q => by cases q) (by show ¬ (i < 0 ∨ (arrV _ _ _).slots.size ≤ _); rw [arrV_size]; exact hin) rfl rfl d fun H1 e z oq => ?_
  refine kk H1 _ la (hP.put ?_ oq) (g_hA hA hσ) (hS.put z oq (hA a _ hσ)) hL
  show H1[a]? = some (vp_cell _ _)
  rw [e]
  rw [vp_cell_l, vp_cell_l, arrV_store]
  congr 2
  funext q
  by_cases hq : q = i.toNatClampNeg
  · subst hq
    simp [updV, vp_updL]
  · simp [updV, vp_updL, hq]

