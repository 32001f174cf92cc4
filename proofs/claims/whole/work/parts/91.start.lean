/-! from the entry: the tables' words, the classes, the world -/
section ENTRY
variable {args : Array Value} {s : State}
theorem ar_prim {ty : FieldType} (h : (Cond.arrayClass ty).before args s = true) : ∃ cA : ClassId, ArrOfT s cA ty ∧ s.vm.findClass ("[" ++ ty.toString) = some cA := by
  obtain ⟨c, k, comp, h1, h2, h3⟩ := Cond.arrayClass_spec h
  exact ⟨c, fun n z => ⟨fun k h => (by cases h), k, h2, comp, h3⟩, h1⟩
theorem ar_obj {C : String} (h : (Cond.arrayOver (.object C)).before args s = true) : ∃ cA : ClassId, ArrOfT s cA (.object C) ∧ va_RA s cA (.object C) := by
  obtain ⟨comp, c, k, h1, -, h3, h4, h5⟩ := Cond.arrayOver_spec h
  exact ⟨c, fun n z => ⟨fun k h => (by cases h), k, h3, comp, h4⟩, k, comp, h3, h4, h1, h5⟩
theorem ar_arr {ty : FieldType} (h : (Cond.arrayOver (.array ty)).before args s = true) : ∃ cA : ClassId, ArrOfT s cA (.array ty) ∧ s.vm.findClass ("[" ++ (FieldType.array ty).toString) = some cA := by
  obtain ⟨comp, c, k, h1, h3, h4, h5⟩ := Cond.arrayOver_specA h
  exact ⟨c, fun n z => ⟨fun k h => (by cases h), k, h3, comp, h4⟩, h5⟩
theorem nc_of {E F : String} (hE : (Cond.castable E E).before args s = true) (hF : (Cond.castable F F).before args s = true) (h : (Cond.not (.castable E F)).before args s = true) : va_Nc E F s := by
  obtain ⟨c1, c2, h1, -, -⟩ := Cond.castable_spec hE
  obtain ⟨d1, d2, g1, -, -⟩ := Cond.castable_spec hF
  refine ⟨c1, d1, h1, g1, ?_⟩
  cases q : s.vm.assignable c1 d1 with
  | false => rfl
  | true =>
    exfalso
    have hc : (Cond.castable E F).before args s = true := by
      simp [Cond.before, Cond.holds, Cond.value, h1, g1, q]
    simp [Cond.before, Cond.holds, Cond.value] at h hc
    simp_all
end ENTRY
theorem knX {s : State} {b : Nat} (hts : ∀ w ∈ lw_tbl, w.before #[Value.ref b] s = true) : ∃ D : va_G, ∀ (c : Nat) (q : vw_C), gcl[c]? = some q → u_Kn s q.1 q.2.1 q.2.2 (D.1 c) (D.2 c) := by
  obtain ⟨c0, i0, k0⟩ := u_known (ws := lw_tbl) (C := RX0) (T := TX0) (N := 8) (n := 8) hts (by decide +kernel) (hts _ (by decide +kernel))
  obtain ⟨c1, i1, k1⟩ := u_known (ws := lw_tbl) (C := RX1) (T := TX1) (N := 5) (n := 5) hts (by decide +kernel) (hts _ (by decide +kernel))
  obtain ⟨c2, i2, k2⟩ := u_known (ws := lw_tbl) (C := RX2) (T := TX2) (N := 1) (n := 1) hts (by decide +kernel) (hts _ (by decide +kernel))
  obtain ⟨c3, i3, k3⟩ := u_known (ws := lw_tbl) (C := RX3) (T := TX3) (N := 3) (n := 3) hts (by decide +kernel) (hts _ (by decide +kernel))
  obtain ⟨c4, i4, k4⟩ := u_known (ws := lw_tbl) (C := RX4) (T := TX4) (N := 4) (n := 4) hts (by decide +kernel) (hts _ (by decide +kernel))
  obtain ⟨c5, i5, k5⟩ := u_known (ws := lw_tbl) (C := RX5) (T := TX5) (N := 10) (n := 10) hts (by decide +kernel) (hts _ (by decide +kernel))
  obtain ⟨c6, i6, k6⟩ := u_known (ws := lw_tbl) (C := RX6) (T := TX6) (N := 10) (n := 10) hts (by decide +kernel) (hts _ (by decide +kernel))
  obtain ⟨c7, i7, k7⟩ := u_known (ws := lw_tbl) (C := RX7) (T := TX7) (N := 31) (n := 31) hts (by decide +kernel) (hts _ (by decide +kernel))
  refine ⟨(fun c => match c with | 0 => c0 | 1 => c1 | 2 => c2 | 3 => c3 | 4 => c4 | 5 => c5 | 6 => c6 | _ => c7, fun c => match c with | 0 => i0 | 1 => i1 | 2 => i2 | 3 => i3 | 4 => i4 | 5 => i5 | 6 => i6 | _ => i7), fun c q hq => ?_⟩
  match c, hq with
  | 0, hq => cases hq; exact k0
  | 1, hq => cases hq; exact k1
  | 2, hq => cases hq; exact k2
  | 3, hq => cases hq; exact k3
  | 4, hq => cases hq; exact k4
  | 5, hq => cases hq; exact k5
  | 6, hq => cases hq; exact k6
  | 7, hq => cases hq; exact k7
  | c + 8, hq => simp at hq
theorem arX {s : State} {b : Nat} (hts : ∀ w ∈ lw_tbl, w.before #[Value.ref b] s = true) : ∃ dA : Nat → ClassId, ∀ (k : Nat) (q : ClassId × FieldType), (tyL dA)[k]? = some q → ArrOfT s q.1 q.2 ∧ va_RA s q.1 q.2 := by
  obtain ⟨a0, h0⟩ := ar_prim (ty := .int) (hts _ (by decide +kernel))
  obtain ⟨a1, h1⟩ := ar_prim (ty := .boolean) (hts _ (by decide +kernel))
  obtain ⟨a2, h2⟩ := ar_obj (C := "GatedLinks$PlannedStream") (hts _ (by decide +kernel))
  obtain ⟨a3, h3⟩ := ar_obj (C := "GatedLinks$Port") (hts _ (by decide +kernel))
  obtain ⟨a4, h4⟩ := ar_obj (C := "GatedLinks$Stream") (hts _ (by decide +kernel))
  obtain ⟨a5, h5⟩ := ar_obj (C := "GatedLinks$Talker") (hts _ (by decide +kernel))
  obtain ⟨a6, h6⟩ := ar_arr (ty := .int) (hts _ (by decide +kernel))
  obtain ⟨a7, h7⟩ := ar_prim (ty := .long) (hts _ (by decide +kernel))
  refine ⟨fun c => match c with | 0 => a0 | 1 => a1 | 2 => a2 | 3 => a3 | 4 => a4 | 5 => a5 | 6 => a6 | _ => a7, fun k q hq => ?_⟩
  match k, hq with
  | 0, hq => cases hq; exact h0
  | 1, hq => cases hq; exact h1
  | 2, hq => cases hq; exact h2
  | 3, hq => cases hq; exact h3
  | 4, hq => cases hq; exact h4
  | 5, hq => cases hq; exact h5
  | 6, hq => cases hq; exact h6
  | 7, hq => cases hq; exact h7
  | k + 8, hq => simp [tyL] at hq
