/-! the throws of the class; its schedules; small words -/
theorem TB_of {ws : List Cond} (h : ∀ w ∈ ws, w ∈ lw_tbl) (hg : ws.all goodWord = true) : ∀ w ∈ ws, w ∈ TB := fun w hw => List.mem_filter.mpr ⟨h w hw, List.all_eq_true.mp hg w hw⟩
abbrev E_44 : String := "java/lang/IllegalArgumentException"
abbrev E_112 : String := "java/lang/IndexOutOfBoundsException"
abbrev E_70 : String := "java/lang/UnsupportedOperationException"
abbrev E_208 : String := "java/util/NoSuchElementException"
abbrev T_206 : String := "no such link"
abbrev T_46 : String := "a delay is 0 .. 9 ticks"
abbrev T_58 : String := "a path is one to three different links"
abbrev T_64 : String := "no such period, size or deadline"
abbrev T_72 : String := "there are five streams"
abbrev T_82 : String := "tries are 0 .. 20000"
abbrev T_210 : String := "no schedule was found"
abbrev T_114 : String := "no such stream in the schedule that was found"
abbrev T_120 : String := "a tick of a gate is 0 .. 31"
abbrev T_129 : String := "ticks are 1 .. 200"
abbrev T_217 : String := "no such stream in force"
abbrev T_140 : String := "a talker is 0 .. 7 ticks late"
abbrev T_158 : String := "a frame that waits has 1 .. 8 ticks"
abbrev T_163 : String := "four frames wait"
abbrev T_183 : String := "of a stream 0 .. 5 is told"
abbrev T_192 : String := "of a link 0 .. 3 is told"
abbrev T_201 : String := "streams are told of 0 .. 3"
theorem thr_44 : gThr 44 48 E_44 := ⟨TB_at 245 (by decide +kernel) (by decide +kernel), TB_at 10 (by decide +kernel) (by decide +kernel), TB_of (by decide +kernel) (by decide +kernel), by decide +kernel, by decide +kernel⟩
theorem thr_112 : gThr 112 116 E_112 := ⟨TB_at 176 (by decide +kernel) (by decide +kernel), TB_at 9 (by decide +kernel) (by decide +kernel), TB_of (by decide +kernel) (by decide +kernel), by decide +kernel, by decide +kernel⟩
theorem thr_70 : gThr 70 74 E_70 := ⟨TB_at 280 (by decide +kernel) (by decide +kernel), TB_at 11 (by decide +kernel) (by decide +kernel), TB_of (by decide +kernel) (by decide +kernel), by decide +kernel, by decide +kernel⟩
/-- a schedule or none: n streams, -1 for none -/
def scO (dA : Nat → ClassId) (cd : Nat → Nat) (σ : hS) (r : Option Nat) (n : Int) (Q : Nat → mS) : Prop := (r = none ∧ n = -1) ∨ ∃ a, r = some a ∧ (0 ≤ n ∧ n ≤ 5) ∧ isSc dA cd σ a n.toNat Q
theorem scO.fr {dA : Nat → ClassId} {cd : Nat → Nat} {σ σ' : hS} {r : Option Nat} {n : Int} {Q : Nat → mS} (h : scO dA cd σ r n Q) (hF : cFr cd σ σ') : scO dA cd σ' r n Q := h.imp id fun ⟨a, h1, h2, h3⟩ => ⟨a, h1, h2, h3.fr hF⟩
theorem scO.r {dA : Nat → ClassId} {cd : Nat → Nat} {σ : hS} {r : Option Nat} {n : Int} {Q : Nat → mS} (h : scO dA cd σ r n Q) : -1 ≤ n ∧ n ≤ 5 := by rcases h with ⟨-, h⟩ | ⟨a, -, h, -⟩ <;> omega
def tlN (n : Int) : Int := if n < 0 then 0 else n
/-- isPath, as the class has it -/
def ptB (a b c : Int) : Bool := if b = -1 then decide (c = -1) else decide (a ≠ b ∧ a ≠ c ∧ b ≠ c)
/-- OPEN: NoSuchElementException's constructor calls the one above by another index -/
def thr_208 : Prop := True
theorem g_throwN {l0 : Launch} {Γ : gC} {cc : ByteArray} {nL : Nat} {R0 : Room} {σ : hS} {kc ks pc : Nat} {ls : gLs} {st : List Value} {rm : Room} {Post : Option Value → hS → Prop} {PX : String → hS → Prop} {ret : Option FieldType} (cx : CX l0 Γ cc RX6 nL R0) (hst : l0.stackTraces = false) (rx : RX Γ ret rm Post PX) (nx : NX Γ) (hlen : ls.length = nL) {cls text : String} {is : Nat} (hcls : cls ∈ gExc) (hstr : (is, text) ∈ gStr) (_ht : Prop)
    (d0 : decode cc pc = .ok (.new 208, 3)) (d3 : decode cc (pc + 3) = .ok (.dup, 1)) (d4 : decode cc (pc + 4) = .ok (.ldc is, 2)) (d6 : decode cc (pc + 6) = .ok (.invokespecial 212, 3)) (d9 : decode cc (pc + 9) = .ok (.athrow, 1))
    (hR : 5 < R0.frames ∧ (st.map fun v => v.category).sum + 82 ≤ R0.locals ∧ kc + 1 ≤ R0.cells ∧ ks + 6 ≤ R0.slots) (hk : kc + 1 ≤ rm.cells ∧ ks + 6 ≤ rm.slots) (hp : PX cls σ) : G Γ σ kc ks pc ls st := sorry
