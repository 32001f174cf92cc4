/-! numbers as integers: iI; rows over them -/
def iI (a : Int) : Int32 := Int32.ofInt a
def bz (b : Bool) : Int := if b then 1 else 0
theorem iI_toInt {a : Int} (h : -2147483648 ≤ a ∧ a ≤ 2147483647) : (iI a).toInt = a := Int32.toInt_ofInt_of_le (by omega) (by omega)
theorem iI_of (x : Int32) : ∃ a : Int, (-2147483648 ≤ a ∧ a ≤ 2147483647) ∧ x = iI a := ⟨x.toInt, ⟨by have := Int32.le_toInt x; omega, by have := Int32.toInt_lt x; omega⟩, (Int32.ofInt_toInt x).symm⟩
theorem iI_cl {a : Int} (h : 0 ≤ a ∧ a ≤ 2147483647) : (iI a).toNatClampNeg = a.toNat := by
  show (iI a).toInt.toNat = a.toNat
  rw [iI_toInt (by omega)]
theorem iI_add (a b : Int) : iI a + iI b = iI (a + b) := (Int32.ofInt_add a b).symm
theorem iI_sub (a b : Int) : iI a - iI b = iI (a - b) := (Int32.ofInt_sub a b).symm
theorem iI_mul (a b : Int) : iI a * iI b = iI (a * b) := (Int32.ofInt_mul a b).symm
theorem iI_lt {a b : Int} (ha : -2147483648 ≤ a ∧ a ≤ 2147483647) (hb : -2147483648 ≤ b ∧ b ≤ 2147483647) : iI a < iI b ↔ a < b := by rw [Int32.lt_iff_toInt_lt, iI_toInt ha, iI_toInt hb]
theorem iI_le {a b : Int} (ha : -2147483648 ≤ a ∧ a ≤ 2147483647) (hb : -2147483648 ≤ b ∧ b ≤ 2147483647) : iI a ≤ iI b ↔ a ≤ b := by rw [Int32.le_iff_toInt_le, iI_toInt ha, iI_toInt hb]
theorem iI_eq {a b : Int} (ha : -2147483648 ≤ a ∧ a ≤ 2147483647) (hb : -2147483648 ≤ b ∧ b ≤ 2147483647) : iI a = iI b ↔ a = b := by rw [← Int32.toInt_inj, iI_toInt ha, iI_toInt hb]
theorem iI_0 : (0 : Int32) = iI 0 := rfl
theorem iI_rem {a b : Int} (ha : -2147483648 ≤ a ∧ a ≤ 2147483647) (hb : 0 < b ∧ b ≤ 2147483647) : iI a - iI a / iI b * iI b = iI (a.tmod b) := by
  have h1 : iI a / iI b = iI (a.tdiv b) := by
    refine Int32.toInt_inj.mp ?_
    have hne : iI b ≠ -1 := fun h => by
      have := congrArg Int32.toInt h
      rw [iI_toInt (by omega)] at this
      have h2 : (-1 : Int32).toInt = -1 := rfl
      omega
    rw [Int32.toInt_div_of_ne_right _ _ hne, iI_toInt ha, iI_toInt (by omega), iI_toInt]
    have h3 := Int.natAbs_tdiv_le_natAbs a b
    rcases Int.le_total 0 a with h0 | h0
    · have h4 := Int.tdiv_nonneg h0 (show 0 ≤ b by omega)
      omega
    · have h4 := Int.tdiv_nonneg (show 0 ≤ -a by omega) (show 0 ≤ b by omega)
      rw [Int.neg_tdiv] at h4
      omega
  rw [h1, iI_mul, iI_sub]
  congr 1
  have := Int.tdiv_mul_add_tmod a b
  omega
theorem iI_in {a : Int} {N : Nat} (h : 0 ≤ a ∧ a < (N : Int)) (hN : (N : Int) ≤ 2147483647) : vp_in (iI a) N := by
  rw [vp_in_iff, iI_toInt (by omega)]
  omega
theorem iI_bz (b : Bool) : narrow .boolean (.int (iI (bz b))) = .int (iI (bz b)) := by cases b <;> rfl
section ZROWS
variable {l0 : Launch} {Γ : gC} {cc : ByteArray} {own : String} {nL : Nat} {R0 : Room} {σ : hS} {kc ks pc : Nat} {ls : gLs} {st : List Value} {a b : Int}
theorem z_iconst {z : Int} (cx : CX l0 Γ cc own nL R0) (d : decode cc pc = .ok (.iconst z, 1)) (k : G Γ σ kc ks (pc + 1) ls (.int (iI z) :: st)) : G Γ σ kc ks pc ls st := g_iconst cx rfl d k
theorem z_bipush {z : Int} (cx : CX l0 Γ cc own nL R0) (h : (Int8.ofInt z).toInt32 = iI z) (d : decode cc pc = .ok (.bipush z, 2)) (k : G Γ σ kc ks (pc + 2) ls (.int (iI z) :: st)) : G Γ σ kc ks pc ls st := g_bipush cx h d k
theorem z_sipush {z : Int} (cx : CX l0 Γ cc own nL R0) (h : (Int16.ofInt z).toInt32 = iI z) (d : decode cc pc = .ok (.sipush z, 3)) (k : G Γ σ kc ks (pc + 3) ls (.int (iI z) :: st)) : G Γ σ kc ks pc ls st := g_sipush cx h d k
theorem z_iadd (cx : CX l0 Γ cc own nL R0) (d : decode cc pc = .ok (.iadd, 1)) (k : G Γ σ kc ks (pc + 1) ls (.int (iI (a + b)) :: st)) : G Γ σ kc ks pc ls (.int (iI b) :: .int (iI a) :: st) := g_iadd cx d (by rw [iI_add]; exact k)
theorem z_isub (cx : CX l0 Γ cc own nL R0) (d : decode cc pc = .ok (.isub, 1)) (k : G Γ σ kc ks (pc + 1) ls (.int (iI (a - b)) :: st)) : G Γ σ kc ks pc ls (.int (iI b) :: .int (iI a) :: st) := g_isub cx d (by rw [iI_sub]; exact k)
theorem z_imul (cx : CX l0 Γ cc own nL R0) (d : decode cc pc = .ok (.imul, 1)) (k : G Γ σ kc ks (pc + 1) ls (.int (iI (a * b)) :: st)) : G Γ σ kc ks pc ls (.int (iI b) :: .int (iI a) :: st) := g_imul cx d (by rw [iI_mul]; exact k)
theorem z_irem (cx : CX l0 Γ cc own nL R0) (h : (-2147483648 ≤ a ∧ a ≤ 2147483647) ∧ (0 < b ∧ b ≤ 2147483647)) (d : decode cc pc = .ok (.irem, 1)) (k : G Γ σ kc ks (pc + 1) ls (.int (iI (a.tmod b)) :: st)) : G Γ σ kc ks pc ls (.int (iI b) :: .int (iI a) :: st) := by
  refine g_irem cx (fun q => ?_) d (by rw [iI_rem h.1 h.2]; exact k)
  rw [iI_0, iI_eq (by omega) (by omega)] at q
  omega
theorem z_iinc {i : Nat} {z : Int} (cx : CX l0 Γ cc own nL R0) (hl : ls[i]? = some (some (.int (iI a)))) (d : decode cc pc = .ok (.iinc i z, 3)) (k : G Γ σ kc ks (pc + 3) (ls.set i (some (.int (iI (a + z))))) st) : G Γ σ kc ks pc ls st := g_iinc cx hl (iI_add a z) d k
variable {off : Int} {tgt : Nat}
theorem z_if_eq (cx : CX l0 Γ cc own nL R0) (h : -2147483648 ≤ a ∧ a ≤ 2147483647) (ht : (pc : Int) + off = (tgt : Int)) (d : decode cc pc = .ok (.ifCond .eq off, 3)) (k1 : a = 0 → G Γ σ kc ks tgt ls st) (k2 : ¬ a = 0 → G Γ σ kc ks (pc + 3) ls st) : G Γ σ kc ks pc ls (.int (iI a) :: st) :=
  g_if_eq cx ht d (fun q => k1 (by rw [iI_0, iI_eq h (by omega)] at q; exact q)) (fun q => k2 (by rw [iI_0, iI_eq h (by omega)] at q; exact q))
theorem z_if_ne (cx : CX l0 Γ cc own nL R0) (h : -2147483648 ≤ a ∧ a ≤ 2147483647) (ht : (pc : Int) + off = (tgt : Int)) (d : decode cc pc = .ok (.ifCond .ne off, 3)) (k1 : ¬ a = 0 → G Γ σ kc ks tgt ls st) (k2 : a = 0 → G Γ σ kc ks (pc + 3) ls st) : G Γ σ kc ks pc ls (.int (iI a) :: st) :=
  g_if_ne cx ht d (fun q => k1 (by rw [iI_0, iI_eq h (by omega)] at q; exact q)) (fun q => k2 (by rw [iI_0, iI_eq h (by omega)] at q; exact q))
theorem z_if_lt (cx : CX l0 Γ cc own nL R0) (h : -2147483648 ≤ a ∧ a ≤ 2147483647) (ht : (pc : Int) + off = (tgt : Int)) (d : decode cc pc = .ok (.ifCond .lt off, 3)) (k1 : a < 0 → G Γ σ kc ks tgt ls st) (k2 : 0 ≤ a → G Γ σ kc ks (pc + 3) ls st) : G Γ σ kc ks pc ls (.int (iI a) :: st) :=
  g_if_lt cx ht d (fun q => k1 (by rw [iI_0, iI_lt h (by omega)] at q; exact q)) (fun q => k2 (by rw [iI_0, iI_lt h (by omega)] at q; omega))
theorem z_if_ge (cx : CX l0 Γ cc own nL R0) (h : -2147483648 ≤ a ∧ a ≤ 2147483647) (ht : (pc : Int) + off = (tgt : Int)) (d : decode cc pc = .ok (.ifCond .ge off, 3)) (k1 : 0 ≤ a → G Γ σ kc ks tgt ls st) (k2 : a < 0 → G Γ σ kc ks (pc + 3) ls st) : G Γ σ kc ks pc ls (.int (iI a) :: st) :=
  g_if_ge cx ht d (fun q => k1 (by rw [iI_0, iI_le (by omega) h] at q; exact q)) (fun q => k2 (by rw [iI_0, iI_le (by omega) h] at q; omega))
theorem z_if_gt (cx : CX l0 Γ cc own nL R0) (h : -2147483648 ≤ a ∧ a ≤ 2147483647) (ht : (pc : Int) + off = (tgt : Int)) (d : decode cc pc = .ok (.ifCond .gt off, 3)) (k1 : 0 < a → G Γ σ kc ks tgt ls st) (k2 : a ≤ 0 → G Γ σ kc ks (pc + 3) ls st) : G Γ σ kc ks pc ls (.int (iI a) :: st) :=
  g_if_gt cx ht d (fun q => k1 (by rw [iI_0, iI_lt (by omega) h] at q; exact q)) (fun q => k2 (by rw [iI_0, iI_lt (by omega) h] at q; omega))
theorem z_if_le (cx : CX l0 Γ cc own nL R0) (h : -2147483648 ≤ a ∧ a ≤ 2147483647) (ht : (pc : Int) + off = (tgt : Int)) (d : decode cc pc = .ok (.ifCond .le off, 3)) (k1 : a ≤ 0 → G Γ σ kc ks tgt ls st) (k2 : 0 < a → G Γ σ kc ks (pc + 3) ls st) : G Γ σ kc ks pc ls (.int (iI a) :: st) :=
  g_if_le cx ht d (fun q => k1 (by rw [iI_0, iI_le h (by omega)] at q; exact q)) (fun q => k2 (by rw [iI_0, iI_le h (by omega)] at q; omega))
abbrev zR (a b : Int) : Prop := (-2147483648 ≤ a ∧ a ≤ 2147483647) ∧ (-2147483648 ≤ b ∧ b ≤ 2147483647)
theorem z_icmp_eq (cx : CX l0 Γ cc own nL R0) (h : zR a b) (ht : (pc : Int) + off = (tgt : Int)) (d : decode cc pc = .ok (.if_icmp .eq off, 3)) (k1 : a = b → G Γ σ kc ks tgt ls st) (k2 : ¬ a = b → G Γ σ kc ks (pc + 3) ls st) : G Γ σ kc ks pc ls (.int (iI b) :: .int (iI a) :: st) :=
  g_icmp_eq cx ht d (fun q => k1 (by rw [iI_eq h.1 h.2] at q; exact q)) (fun q => k2 (by rw [iI_eq h.1 h.2] at q; exact q))
theorem z_icmp_ne (cx : CX l0 Γ cc own nL R0) (h : zR a b) (ht : (pc : Int) + off = (tgt : Int)) (d : decode cc pc = .ok (.if_icmp .ne off, 3)) (k1 : ¬ a = b → G Γ σ kc ks tgt ls st) (k2 : a = b → G Γ σ kc ks (pc + 3) ls st) : G Γ σ kc ks pc ls (.int (iI b) :: .int (iI a) :: st) :=
  g_icmp_ne cx ht d (fun q => k1 (by rw [iI_eq h.1 h.2] at q; exact q)) (fun q => k2 (by rw [iI_eq h.1 h.2] at q; exact q))
theorem z_icmp_lt (cx : CX l0 Γ cc own nL R0) (h : zR a b) (ht : (pc : Int) + off = (tgt : Int)) (d : decode cc pc = .ok (.if_icmp .lt off, 3)) (k1 : a < b → G Γ σ kc ks tgt ls st) (k2 : b ≤ a → G Γ σ kc ks (pc + 3) ls st) : G Γ σ kc ks pc ls (.int (iI b) :: .int (iI a) :: st) :=
  g_icmp_lt cx ht d (fun q => k1 (by rw [iI_lt h.1 h.2] at q; exact q)) (fun q => k2 (by rw [iI_lt h.1 h.2] at q; omega))
theorem z_icmp_ge (cx : CX l0 Γ cc own nL R0) (h : zR a b) (ht : (pc : Int) + off = (tgt : Int)) (d : decode cc pc = .ok (.if_icmp .ge off, 3)) (k1 : b ≤ a → G Γ σ kc ks tgt ls st) (k2 : a < b → G Γ σ kc ks (pc + 3) ls st) : G Γ σ kc ks pc ls (.int (iI b) :: .int (iI a) :: st) :=
  g_icmp_ge cx ht d (fun q => k1 (by rw [iI_le h.2 h.1] at q; exact q)) (fun q => k2 (by rw [iI_le h.2 h.1] at q; omega))
theorem z_icmp_gt (cx : CX l0 Γ cc own nL R0) (h : zR a b) (ht : (pc : Int) + off = (tgt : Int)) (d : decode cc pc = .ok (.if_icmp .gt off, 3)) (k1 : b < a → G Γ σ kc ks tgt ls st) (k2 : a ≤ b → G Γ σ kc ks (pc + 3) ls st) : G Γ σ kc ks pc ls (.int (iI b) :: .int (iI a) :: st) :=
  g_icmp_gt cx ht d (fun q => k1 (by rw [iI_lt h.2 h.1] at q; exact q)) (fun q => k2 (by rw [iI_lt h.2 h.1] at q; omega))
theorem z_icmp_le (cx : CX l0 Γ cc own nL R0) (h : zR a b) (ht : (pc : Int) + off = (tgt : Int)) (d : decode cc pc = .ok (.if_icmp .le off, 3)) (k1 : a ≤ b → G Γ σ kc ks tgt ls st) (k2 : b < a → G Γ σ kc ks (pc + 3) ls st) : G Γ σ kc ks pc ls (.int (iI b) :: .int (iI a) :: st) :=
  g_icmp_le cx ht d (fun q => k1 (by rw [iI_le h.1 h.2] at q; exact q)) (fun q => k2 (by rw [iI_le h.1 h.2] at q; omega))
theorem z_ret {rm : Room} {Post : Option Value → hS → Prop} {PX : String → hS → Prop} (cx : CX l0 Γ cc own nL R0) (rx : RX Γ (some .int) rm Post PX) (hk : kc ≤ rm.cells) (hs : ks ≤ rm.slots) (d : decode cc pc = .ok (.ireturn, 1)) (hp : Post (some (.int (iI a))) σ) : G Γ σ kc ks pc ls [.int (iI a)] := g_ireturn cx rx hk hs d hp
theorem z_retb {rm : Room} {Post : Option Value → hS → Prop} {PX : String → hS → Prop} {b : Bool} (cx : CX l0 Γ cc own nL R0) (rx : RX Γ (some .boolean) rm Post PX) (hk : kc ≤ rm.cells) (hs : ks ≤ rm.slots) (d : decode cc pc = .ok (.ireturn, 1)) (hab : a = bz b) (hp : Post (some (.int (iI (bz b)))) σ) : G Γ σ kc ks pc ls [.int (iI a)] := by
  subst hab
  exact g_zreturn cx rx hk hs (iI_bz b) d hp
end ZROWS
