/-! locals: a row a place (written by program) -/
theorem z_al_1_0 {l0 : Launch} {Γ : gC} {cc : ByteArray} {own : String} {nL : Nat} {R0 : Room} {σ : hS} {kc ks pc : Nat} {st : List Value} {v : Nat} (cx : CX l0 Γ cc own nL R0) (d : decode cc pc = .ok (.aload_n 0, 1)) (k : G Γ σ kc ks (pc + 1) [some (.ref v)] (.ref v :: st)) : G Γ σ kc ks pc [some (.ref v)] st := g_aload_n (q := 0) (i := 0) cx rfl rfl d k
theorem z_al_5_0 {l0 : Launch} {Γ : gC} {cc : ByteArray} {own : String} {nL : Nat} {R0 : Room} {σ : hS} {kc ks pc : Nat} {st : List Value} {x1 x2 x3 x4 : Option Value} {v : Nat} (cx : CX l0 Γ cc own nL R0) (d : decode cc pc = .ok (.aload_n 0, 1)) (k : G Γ σ kc ks (pc + 1) [some (.ref v), x1, x2, x3, x4] (.ref v :: st)) : G Γ σ kc ks pc [some (.ref v), x1, x2, x3, x4] st := g_aload_n (q := 0) (i := 0) cx rfl rfl d k
theorem z_ii_5_4 {l0 : Launch} {Γ : gC} {cc : ByteArray} {own : String} {nL : Nat} {R0 : Room} {σ : hS} {kc ks pc : Nat} {st : List Value} {x0 x1 x2 x3 : Option Value} {a z : Int} (cx : CX l0 Γ cc own nL R0) (d : decode cc pc = .ok (.iinc 4 z, 3)) (k : G Γ σ kc ks (pc + 3) [x0, x1, x2, x3, some (.int (iI (a + z)))] st) : G Γ σ kc ks pc [x0, x1, x2, x3, some (.int (iI a))] st := z_iinc (i := 4) cx rfl d k
theorem z_il_1_0 {l0 : Launch} {Γ : gC} {cc : ByteArray} {own : String} {nL : Nat} {R0 : Room} {σ : hS} {kc ks pc : Nat} {st : List Value} {v : Int32} (cx : CX l0 Γ cc own nL R0) (d : decode cc pc = .ok (.iload_n 0, 1)) (k : G Γ σ kc ks (pc + 1) [some (.int v)] (.int v :: st)) : G Γ σ kc ks pc [some (.int v)] st := g_iload_n (q := 0) (i := 0) cx rfl rfl d k
theorem z_il_2_0 {l0 : Launch} {Γ : gC} {cc : ByteArray} {own : String} {nL : Nat} {R0 : Room} {σ : hS} {kc ks pc : Nat} {st : List Value} {x1 : Option Value} {v : Int32} (cx : CX l0 Γ cc own nL R0) (d : decode cc pc = .ok (.iload_n 0, 1)) (k : G Γ σ kc ks (pc + 1) [some (.int v), x1] (.int v :: st)) : G Γ σ kc ks pc [some (.int v), x1] st := g_iload_n (q := 0) (i := 0) cx rfl rfl d k
theorem z_il_2_1 {l0 : Launch} {Γ : gC} {cc : ByteArray} {own : String} {nL : Nat} {R0 : Room} {σ : hS} {kc ks pc : Nat} {st : List Value} {x0 : Option Value} {v : Int32} (cx : CX l0 Γ cc own nL R0) (d : decode cc pc = .ok (.iload_n 1, 1)) (k : G Γ σ kc ks (pc + 1) [x0, some (.int v)] (.int v :: st)) : G Γ σ kc ks pc [x0, some (.int v)] st := g_iload_n (q := 1) (i := 1) cx rfl rfl d k
theorem z_il_5_1 {l0 : Launch} {Γ : gC} {cc : ByteArray} {own : String} {nL : Nat} {R0 : Room} {σ : hS} {kc ks pc : Nat} {st : List Value} {x0 x2 x3 x4 : Option Value} {v : Int32} (cx : CX l0 Γ cc own nL R0) (d : decode cc pc = .ok (.iload_n 1, 1)) (k : G Γ σ kc ks (pc + 1) [x0, some (.int v), x2, x3, x4] (.int v :: st)) : G Γ σ kc ks pc [x0, some (.int v), x2, x3, x4] st := g_iload_n (q := 1) (i := 1) cx rfl rfl d k
theorem z_il_5_2 {l0 : Launch} {Γ : gC} {cc : ByteArray} {own : String} {nL : Nat} {R0 : Room} {σ : hS} {kc ks pc : Nat} {st : List Value} {x0 x1 x3 x4 : Option Value} {v : Int32} (cx : CX l0 Γ cc own nL R0) (d : decode cc pc = .ok (.iload_n 2, 1)) (k : G Γ σ kc ks (pc + 1) [x0, x1, some (.int v), x3, x4] (.int v :: st)) : G Γ σ kc ks pc [x0, x1, some (.int v), x3, x4] st := g_iload_n (q := 2) (i := 2) cx rfl rfl d k
theorem z_il_5_3 {l0 : Launch} {Γ : gC} {cc : ByteArray} {own : String} {nL : Nat} {R0 : Room} {σ : hS} {kc ks pc : Nat} {st : List Value} {x0 x1 x2 x4 : Option Value} {v : Int32} (cx : CX l0 Γ cc own nL R0) (d : decode cc pc = .ok (.iload_n 3, 1)) (k : G Γ σ kc ks (pc + 1) [x0, x1, x2, some (.int v), x4] (.int v :: st)) : G Γ σ kc ks pc [x0, x1, x2, some (.int v), x4] st := g_iload_n (q := 3) (i := 3) cx rfl rfl d k
theorem z_il_5_4 {l0 : Launch} {Γ : gC} {cc : ByteArray} {own : String} {nL : Nat} {R0 : Room} {σ : hS} {kc ks pc : Nat} {st : List Value} {x0 x1 x2 x3 : Option Value} {v : Int32} (cx : CX l0 Γ cc own nL R0) (d : decode cc pc = .ok (.iload 4, 2)) (k : G Γ σ kc ks (pc + 2) [x0, x1, x2, x3, some (.int v)] (.int v :: st)) : G Γ σ kc ks pc [x0, x1, x2, x3, some (.int v)] st := g_iload (i := 4) cx rfl d k
theorem z_il_8_0 {l0 : Launch} {Γ : gC} {cc : ByteArray} {own : String} {nL : Nat} {R0 : Room} {σ : hS} {kc ks pc : Nat} {st : List Value} {x1 x2 x3 x4 x5 x6 x7 : Option Value} {v : Int32} (cx : CX l0 Γ cc own nL R0) (d : decode cc pc = .ok (.iload_n 0, 1)) (k : G Γ σ kc ks (pc + 1) [some (.int v), x1, x2, x3, x4, x5, x6, x7] (.int v :: st)) : G Γ σ kc ks pc [some (.int v), x1, x2, x3, x4, x5, x6, x7] st := g_iload_n (q := 0) (i := 0) cx rfl rfl d k
theorem z_il_8_1 {l0 : Launch} {Γ : gC} {cc : ByteArray} {own : String} {nL : Nat} {R0 : Room} {σ : hS} {kc ks pc : Nat} {st : List Value} {x0 x2 x3 x4 x5 x6 x7 : Option Value} {v : Int32} (cx : CX l0 Γ cc own nL R0) (d : decode cc pc = .ok (.iload_n 1, 1)) (k : G Γ σ kc ks (pc + 1) [x0, some (.int v), x2, x3, x4, x5, x6, x7] (.int v :: st)) : G Γ σ kc ks pc [x0, some (.int v), x2, x3, x4, x5, x6, x7] st := g_iload_n (q := 1) (i := 1) cx rfl rfl d k
theorem z_il_8_2 {l0 : Launch} {Γ : gC} {cc : ByteArray} {own : String} {nL : Nat} {R0 : Room} {σ : hS} {kc ks pc : Nat} {st : List Value} {x0 x1 x3 x4 x5 x6 x7 : Option Value} {v : Int32} (cx : CX l0 Γ cc own nL R0) (d : decode cc pc = .ok (.iload_n 2, 1)) (k : G Γ σ kc ks (pc + 1) [x0, x1, some (.int v), x3, x4, x5, x6, x7] (.int v :: st)) : G Γ σ kc ks pc [x0, x1, some (.int v), x3, x4, x5, x6, x7] st := g_iload_n (q := 2) (i := 2) cx rfl rfl d k
theorem z_il_8_3 {l0 : Launch} {Γ : gC} {cc : ByteArray} {own : String} {nL : Nat} {R0 : Room} {σ : hS} {kc ks pc : Nat} {st : List Value} {x0 x1 x2 x4 x5 x6 x7 : Option Value} {v : Int32} (cx : CX l0 Γ cc own nL R0) (d : decode cc pc = .ok (.iload_n 3, 1)) (k : G Γ σ kc ks (pc + 1) [x0, x1, x2, some (.int v), x4, x5, x6, x7] (.int v :: st)) : G Γ σ kc ks pc [x0, x1, x2, some (.int v), x4, x5, x6, x7] st := g_iload_n (q := 3) (i := 3) cx rfl rfl d k
theorem z_il_8_4 {l0 : Launch} {Γ : gC} {cc : ByteArray} {own : String} {nL : Nat} {R0 : Room} {σ : hS} {kc ks pc : Nat} {st : List Value} {x0 x1 x2 x3 x5 x6 x7 : Option Value} {v : Int32} (cx : CX l0 Γ cc own nL R0) (d : decode cc pc = .ok (.iload 4, 2)) (k : G Γ σ kc ks (pc + 2) [x0, x1, x2, x3, some (.int v), x5, x6, x7] (.int v :: st)) : G Γ σ kc ks pc [x0, x1, x2, x3, some (.int v), x5, x6, x7] st := g_iload (i := 4) cx rfl d k
theorem z_il_8_5 {l0 : Launch} {Γ : gC} {cc : ByteArray} {own : String} {nL : Nat} {R0 : Room} {σ : hS} {kc ks pc : Nat} {st : List Value} {x0 x1 x2 x3 x4 x6 x7 : Option Value} {v : Int32} (cx : CX l0 Γ cc own nL R0) (d : decode cc pc = .ok (.iload 5, 2)) (k : G Γ σ kc ks (pc + 2) [x0, x1, x2, x3, x4, some (.int v), x6, x7] (.int v :: st)) : G Γ σ kc ks pc [x0, x1, x2, x3, x4, some (.int v), x6, x7] st := g_iload (i := 5) cx rfl d k
theorem z_il_8_6 {l0 : Launch} {Γ : gC} {cc : ByteArray} {own : String} {nL : Nat} {R0 : Room} {σ : hS} {kc ks pc : Nat} {st : List Value} {x0 x1 x2 x3 x4 x5 x7 : Option Value} {v : Int32} (cx : CX l0 Γ cc own nL R0) (d : decode cc pc = .ok (.iload 6, 2)) (k : G Γ σ kc ks (pc + 2) [x0, x1, x2, x3, x4, x5, some (.int v), x7] (.int v :: st)) : G Γ σ kc ks pc [x0, x1, x2, x3, x4, x5, some (.int v), x7] st := g_iload (i := 6) cx rfl d k
theorem z_il_8_7 {l0 : Launch} {Γ : gC} {cc : ByteArray} {own : String} {nL : Nat} {R0 : Room} {σ : hS} {kc ks pc : Nat} {st : List Value} {x0 x1 x2 x3 x4 x5 x6 : Option Value} {v : Int32} (cx : CX l0 Γ cc own nL R0) (d : decode cc pc = .ok (.iload 7, 2)) (k : G Γ σ kc ks (pc + 2) [x0, x1, x2, x3, x4, x5, x6, some (.int v)] (.int v :: st)) : G Γ σ kc ks pc [x0, x1, x2, x3, x4, x5, x6, some (.int v)] st := g_iload (i := 7) cx rfl d k
theorem z_is_5_3 {l0 : Launch} {Γ : gC} {cc : ByteArray} {own : String} {nL : Nat} {R0 : Room} {σ : hS} {kc ks pc : Nat} {st : List Value} {x0 x1 x2 x3 x4 : Option Value} {v : Int32} (cx : CX l0 Γ cc own nL R0) (d : decode cc pc = .ok (.istore_n 3, 1)) (k : G Γ σ kc ks (pc + 1) [x0, x1, x2, some (.int v), x4] st) : G Γ σ kc ks pc [x0, x1, x2, x3, x4] (.int v :: st) := g_istore_n (q := 3) (i := 3) cx rfl (by simp) d k
theorem z_is_5_4 {l0 : Launch} {Γ : gC} {cc : ByteArray} {own : String} {nL : Nat} {R0 : Room} {σ : hS} {kc ks pc : Nat} {st : List Value} {x0 x1 x2 x3 x4 : Option Value} {v : Int32} (cx : CX l0 Γ cc own nL R0) (d : decode cc pc = .ok (.istore 4, 2)) (k : G Γ σ kc ks (pc + 2) [x0, x1, x2, x3, some (.int v)] st) : G Γ σ kc ks pc [x0, x1, x2, x3, x4] (.int v :: st) := g_istore (i := 4) cx (by simp) d k
theorem z_is_8_6 {l0 : Launch} {Γ : gC} {cc : ByteArray} {own : String} {nL : Nat} {R0 : Room} {σ : hS} {kc ks pc : Nat} {st : List Value} {x0 x1 x2 x3 x4 x5 x6 x7 : Option Value} {v : Int32} (cx : CX l0 Γ cc own nL R0) (d : decode cc pc = .ok (.istore 6, 2)) (k : G Γ σ kc ks (pc + 2) [x0, x1, x2, x3, x4, x5, some (.int v), x7] st) : G Γ σ kc ks pc [x0, x1, x2, x3, x4, x5, x6, x7] (.int v :: st) := g_istore (i := 6) cx (by simp) d k
theorem z_is_8_7 {l0 : Launch} {Γ : gC} {cc : ByteArray} {own : String} {nL : Nat} {R0 : Room} {σ : hS} {kc ks pc : Nat} {st : List Value} {x0 x1 x2 x3 x4 x5 x6 x7 : Option Value} {v : Int32} (cx : CX l0 Γ cc own nL R0) (d : decode cc pc = .ok (.istore 7, 2)) (k : G Γ σ kc ks (pc + 2) [x0, x1, x2, x3, x4, x5, x6, some (.int v)] st) : G Γ σ kc ks pc [x0, x1, x2, x3, x4, x5, x6, x7] (.int v :: st) := g_istore (i := 7) cx (by simp) d k
/-! names of calls -/
theorem gy_X6_init : gY yX6_init 0 := ⟨by decide +kernel, by decide +kernel, by decide +kernel⟩
theorem gy_X6_clear : gY yX6_clear 0 := ⟨by decide +kernel, by decide +kernel, by decide +kernel⟩
theorem gy_X6_tries : gY yX6_tries 0 := ⟨by decide +kernel, by decide +kernel, by decide +kernel⟩
theorem gy_L_delay : gY yL_delay 3 := ⟨by decide +kernel, by decide +kernel, by decide +kernel⟩
theorem gy_X6_delay : gY yX6_delay 2 := ⟨by decide +kernel, by decide +kernel, by decide +kernel⟩
theorem gy_X6_requireLink : gY yX6_requireLink 1 := ⟨by decide +kernel, by decide +kernel, by decide +kernel⟩
theorem gy_X6_isLink : gY yX6_isLink 1 := ⟨by decide +kernel, by decide +kernel, by decide +kernel⟩
theorem gy_L_stream : gY yL_stream 8 := ⟨by decide +kernel, by decide +kernel, by decide +kernel⟩
theorem gy_X6_stream : gY yX6_stream 6 := ⟨by decide +kernel, by decide +kernel, by decide +kernel⟩
theorem gy_X6_requireLinkOrNone : gY yX6_requireLinkOrNone 1 := ⟨by decide +kernel, by decide +kernel, by decide +kernel⟩
theorem gy_X6_isPath : gY yX6_isPath 3 := ⟨by decide +kernel, by decide +kernel, by decide +kernel⟩
theorem gy_X6_isPeriod : gY yX6_isPeriod 1 := ⟨by decide +kernel, by decide +kernel, by decide +kernel⟩
theorem gy_X6_pathOf : gY yX6_pathOf 3 := ⟨by decide +kernel, by decide +kernel, by decide +kernel⟩
theorem gy_X4_init : gY yX4_init 4 := ⟨by decide +kernel, by decide +kernel, by decide +kernel⟩
theorem gy_L_build : gY yL_build 3 := ⟨by decide +kernel, by decide +kernel, by decide +kernel⟩
theorem gy_X6_build : gY yX6_build 1 := ⟨by decide +kernel, by decide +kernel, by decide +kernel⟩
theorem gy_X0_init : gY yX0_init 2 := ⟨by decide +kernel, by decide +kernel, by decide +kernel⟩
theorem gy_X0_spansFrom : gY yX0_spansFrom 3 := ⟨by decide +kernel, by decide +kernel, by decide +kernel⟩
theorem gy_X3_run : gY yX3_run 2 := ⟨by decide +kernel, by decide +kernel, by decide +kernel⟩
theorem gy_X3_fits : gY yX3_fits 2 := ⟨by decide +kernel, by decide +kernel, by decide +kernel⟩
theorem gy_X0_latency : gY yX0_latency 0 := ⟨by decide +kernel, by decide +kernel, by decide +kernel⟩
theorem gy_X3_isTaken : gY yX3_isTaken 3 := ⟨by decide +kernel, by decide +kernel, by decide +kernel⟩
theorem gy_X0_spansWith : gY yX0_spansWith 2 := ⟨by decide +kernel, by decide +kernel, by decide +kernel⟩
theorem gy_X2_init : gY yX2_init 1 := ⟨by decide +kernel, by decide +kernel, by decide +kernel⟩
theorem gy_L_offset : gY yL_offset 3 := ⟨by decide +kernel, by decide +kernel, by decide +kernel⟩
theorem gy_X6_offset : gY yX6_offset 1 := ⟨by decide +kernel, by decide +kernel, by decide +kernel⟩
theorem gy_X6_requireFound : gY yX6_requireFound 0 := ⟨by decide +kernel, by decide +kernel, by decide +kernel⟩
theorem gy_L_gate : gY yL_gate 4 := ⟨by decide +kernel, by decide +kernel, by decide +kernel⟩
theorem gy_X6_gate : gY yX6_gate 2 := ⟨by decide +kernel, by decide +kernel, by decide +kernel⟩
theorem gy_X2_ownerOf : gY yX2_ownerOf 2 := ⟨by decide +kernel, by decide +kernel, by decide +kernel⟩
theorem gy_X0_hopOn : gY yX0_hopOn 1 := ⟨by decide +kernel, by decide +kernel, by decide +kernel⟩
theorem gy_X0_hasSpanAt : gY yX0_hasSpanAt 2 := ⟨by decide +kernel, by decide +kernel, by decide +kernel⟩
theorem gy_L_activate : gY yL_activate 1 := ⟨by decide +kernel, by decide +kernel, by decide +kernel⟩
theorem gy_X6_activate : gY yX6_activate 0 := ⟨by decide +kernel, by decide +kernel, by decide +kernel⟩
theorem gy_L_tick : gY yL_tick 3 := ⟨by decide +kernel, by decide +kernel, by decide +kernel⟩
theorem gy_X6_tick : gY yX6_tick 1 := ⟨by decide +kernel, by decide +kernel, by decide +kernel⟩
theorem gy_X6_passOneTick : gY yX6_passOneTick 0 := ⟨by decide +kernel, by decide +kernel, by decide +kernel⟩
theorem gy_X6_isTimeToChange : gY yX6_isTimeToChange 0 := ⟨by decide +kernel, by decide +kernel, by decide +kernel⟩
theorem gy_X6_talking : gY yX6_talking 0 := ⟨by decide +kernel, by decide +kernel, by decide +kernel⟩
theorem gy_X6_comeIntoForce : gY yX6_comeIntoForce 0 := ⟨by decide +kernel, by decide +kernel, by decide +kernel⟩
theorem gy_X5_startAnew : gY yX5_startAnew 1 := ⟨by decide +kernel, by decide +kernel, by decide +kernel⟩
theorem gy_X5_speak : gY yX5_speak 1 := ⟨by decide +kernel, by decide +kernel, by decide +kernel⟩
theorem gy_X0_beginsAt : gY yX0_beginsAt 1 := ⟨by decide +kernel, by decide +kernel, by decide +kernel⟩
theorem gy_X5_moveFrames : gY yX5_moveFrames 2 := ⟨by decide +kernel, by decide +kernel, by decide +kernel⟩
theorem gy_X5_beginsOnCut : gY yX5_beginsOnCut 2 := ⟨by decide +kernel, by decide +kernel, by decide +kernel⟩
theorem gy_X6_beginWaiting : gY yX6_beginWaiting 1 := ⟨by decide +kernel, by decide +kernel, by decide +kernel⟩
theorem gy_X1_canBegin : gY yX1_canBegin 0 := ⟨by decide +kernel, by decide +kernel, by decide +kernel⟩
theorem gy_X2_isFree : gY yX2_isFree 3 := ⟨by decide +kernel, by decide +kernel, by decide +kernel⟩
theorem gy_X1_beginFirst : gY yX1_beginFirst 0 := ⟨by decide +kernel, by decide +kernel, by decide +kernel⟩
theorem gy_X1_endTick : gY yX1_endTick 0 := ⟨by decide +kernel, by decide +kernel, by decide +kernel⟩
theorem gy_L_talk : gY yL_talk 4 := ⟨by decide +kernel, by decide +kernel, by decide +kernel⟩
theorem gy_X6_talk : gY yX6_talk 3 := ⟨by decide +kernel, by decide +kernel, by decide +kernel⟩
theorem gy_X6_requireInForce : gY yX6_requireInForce 1 := ⟨by decide +kernel, by decide +kernel, by decide +kernel⟩
theorem gy_L_unblock : gY yL_unblock 3 := ⟨by decide +kernel, by decide +kernel, by decide +kernel⟩
theorem gy_X6_unblock : gY yX6_unblock 1 := ⟨by decide +kernel, by decide +kernel, by decide +kernel⟩
theorem gy_L_cut : gY yL_cut 4 := ⟨by decide +kernel, by decide +kernel, by decide +kernel⟩
theorem gy_X6_cut : gY yX6_cut 2 := ⟨by decide +kernel, by decide +kernel, by decide +kernel⟩
theorem gy_X6_loseAllOn : gY yX6_loseAllOn 1 := ⟨by decide +kernel, by decide +kernel, by decide +kernel⟩
theorem gy_X5_loseOn : gY yX5_loseOn 2 := ⟨by decide +kernel, by decide +kernel, by decide +kernel⟩
theorem gy_L_babble : gY yL_babble 4 := ⟨by decide +kernel, by decide +kernel, by decide +kernel⟩
theorem gy_X6_babble : gY yX6_babble 2 := ⟨by decide +kernel, by decide +kernel, by decide +kernel⟩
theorem gy_X1_append : gY yX1_append 1 := ⟨by decide +kernel, by decide +kernel, by decide +kernel⟩
theorem gy_L_told : gY yL_told 4 := ⟨by decide +kernel, by decide +kernel, by decide +kernel⟩
theorem gy_X6_told : gY yX6_told 2 := ⟨by decide +kernel, by decide +kernel, by decide +kernel⟩
theorem gy_L_link : gY yL_link 4 := ⟨by decide +kernel, by decide +kernel, by decide +kernel⟩
theorem gy_X6_link : gY yX6_link 2 := ⟨by decide +kernel, by decide +kernel, by decide +kernel⟩
theorem gy_X6_whatIsOn : gY yX6_whatIsOn 1 := ⟨by decide +kernel, by decide +kernel, by decide +kernel⟩
theorem gy_X5_hasFrameOn : gY yX5_hasFrameOn 2 := ⟨by decide +kernel, by decide +kernel, by decide +kernel⟩
theorem gy_L_streams : gY yL_streams 3 := ⟨by decide +kernel, by decide +kernel, by decide +kernel⟩
theorem gy_X6_streams : gY yX6_streams 1 := ⟨by decide +kernel, by decide +kernel, by decide +kernel⟩
theorem gy_X6_streamsOf : gY yX6_streamsOf 1 := ⟨by decide +kernel, by decide +kernel, by decide +kernel⟩
theorem gy_X7_init : gY yX7_init 0 := ⟨by decide +kernel, by decide +kernel, by decide +kernel⟩
theorem gy_X7_thrown : gY yX7_thrown 0 := ⟨by decide +kernel, by decide +kernel, by decide +kernel⟩
theorem gy_X7_delay : gY yX7_delay 2 := ⟨by decide +kernel, by decide +kernel, by decide +kernel⟩
theorem gy_X7_isLink : gY yX7_isLink 1 := ⟨by decide +kernel, by decide +kernel, by decide +kernel⟩
theorem gy_X7_stream : gY yX7_stream 6 := ⟨by decide +kernel, by decide +kernel, by decide +kernel⟩
theorem gy_X7_clear : gY yX7_clear 0 := ⟨by decide +kernel, by decide +kernel, by decide +kernel⟩
theorem gy_X7_build : gY yX7_build 1 := ⟨by decide +kernel, by decide +kernel, by decide +kernel⟩
theorem gy_X7_isGood : gY yX7_isGood 1 := ⟨by decide +kernel, by decide +kernel, by decide +kernel⟩
theorem gy_X7_isOnTime : gY yX7_isOnTime 1 := ⟨by decide +kernel, by decide +kernel, by decide +kernel⟩
theorem gy_X7_begins : gY yX7_begins 2 := ⟨by decide +kernel, by decide +kernel, by decide +kernel⟩
theorem gy_X7_streamsMeet : gY yX7_streamsMeet 2 := ⟨by decide +kernel, by decide +kernel, by decide +kernel⟩
theorem gy_X7_meet : gY yX7_meet 6 := ⟨by decide +kernel, by decide +kernel, by decide +kernel⟩
theorem gy_X7_modulo : gY yX7_modulo 2 := ⟨by decide +kernel, by decide +kernel, by decide +kernel⟩
theorem gy_X7_keep : gY yX7_keep 0 := ⟨by decide +kernel, by decide +kernel, by decide +kernel⟩
theorem gy_X7_tries : gY yX7_tries 0 := ⟨by decide +kernel, by decide +kernel, by decide +kernel⟩
theorem gy_X7_offset : gY yX7_offset 1 := ⟨by decide +kernel, by decide +kernel, by decide +kernel⟩
theorem gy_X7_gate : gY yX7_gate 2 := ⟨by decide +kernel, by decide +kernel, by decide +kernel⟩
theorem gy_X7_spanOf : gY yX7_spanOf 3 := ⟨by decide +kernel, by decide +kernel, by decide +kernel⟩
theorem gy_X7_beginsIn : gY yX7_beginsIn 3 := ⟨by decide +kernel, by decide +kernel, by decide +kernel⟩
theorem gy_X7_activate : gY yX7_activate 0 := ⟨by decide +kernel, by decide +kernel, by decide +kernel⟩
theorem gy_X7_copy : gY yX7_copy 2 := ⟨by decide +kernel, by decide +kernel, by decide +kernel⟩
theorem gy_X7_tick : gY yX7_tick 1 := ⟨by decide +kernel, by decide +kernel, by decide +kernel⟩
theorem gy_X7_tickOnce : gY yX7_tickOnce 0 := ⟨by decide +kernel, by decide +kernel, by decide +kernel⟩
theorem gy_X7_isQuiet : gY yX7_isQuiet 0 := ⟨by decide +kernel, by decide +kernel, by decide +kernel⟩
theorem gy_X7_comeIntoForce : gY yX7_comeIntoForce 0 := ⟨by decide +kernel, by decide +kernel, by decide +kernel⟩
theorem gy_X7_talkAll : gY yX7_talkAll 0 := ⟨by decide +kernel, by decide +kernel, by decide +kernel⟩
theorem gy_X7_flyAll : gY yX7_flyAll 0 := ⟨by decide +kernel, by decide +kernel, by decide +kernel⟩
theorem gy_X7_isLost : gY yX7_isLost 1 := ⟨by decide +kernel, by decide +kernel, by decide +kernel⟩
theorem gy_X7_lastOf : gY yX7_lastOf 1 := ⟨by decide +kernel, by decide +kernel, by decide +kernel⟩
theorem gy_X7_linkOf : gY yX7_linkOf 2 := ⟨by decide +kernel, by decide +kernel, by decide +kernel⟩
theorem gy_X7_beginOf : gY yX7_beginOf 2 := ⟨by decide +kernel, by decide +kernel, by decide +kernel⟩
theorem gy_X7_remove : gY yX7_remove 1 := ⟨by decide +kernel, by decide +kernel, by decide +kernel⟩
theorem gy_X7_throughOf : gY yX7_throughOf 2 := ⟨by decide +kernel, by decide +kernel, by decide +kernel⟩
theorem gy_X7_serve : gY yX7_serve 1 := ⟨by decide +kernel, by decide +kernel, by decide +kernel⟩
theorem gy_X7_isFree : gY yX7_isFree 2 := ⟨by decide +kernel, by decide +kernel, by decide +kernel⟩
theorem gy_X7_talk : gY yX7_talk 3 := ⟨by decide +kernel, by decide +kernel, by decide +kernel⟩
theorem gy_X7_isTalker : gY yX7_isTalker 1 := ⟨by decide +kernel, by decide +kernel, by decide +kernel⟩
theorem gy_X7_unblock : gY yX7_unblock 1 := ⟨by decide +kernel, by decide +kernel, by decide +kernel⟩
theorem gy_X7_cut : gY yX7_cut 2 := ⟨by decide +kernel, by decide +kernel, by decide +kernel⟩
theorem gy_X7_isHit : gY yX7_isHit 2 := ⟨by decide +kernel, by decide +kernel, by decide +kernel⟩
theorem gy_X7_babble : gY yX7_babble 2 := ⟨by decide +kernel, by decide +kernel, by decide +kernel⟩
theorem gy_X7_told : gY yX7_told 2 := ⟨by decide +kernel, by decide +kernel, by decide +kernel⟩
theorem gy_X7_link : gY yX7_link 2 := ⟨by decide +kernel, by decide +kernel, by decide +kernel⟩
theorem gy_X7_on : gY yX7_on 1 := ⟨by decide +kernel, by decide +kernel, by decide +kernel⟩
theorem gy_X7_streams : gY yX7_streams 1 := ⟨by decide +kernel, by decide +kernel, by decide +kernel⟩
