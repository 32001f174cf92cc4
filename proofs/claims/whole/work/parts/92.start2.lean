/-! from the entry: the rest -/
theorem gE_of {s : State} {b : Nat} (hts : ∀ w ∈ lw_tbl, w.before #[Value.ref b] s = true) (hgv : (Jvm.Cond.and given_1 narrow_1).before #[Value.ref b] s = true) : gE s := by
  have hs := flat_of_before _ hgv
  have hcs : ∀ E ∈ gExc, (Cond.castable E E).before #[Value.ref b] s = true := fun E hE => by
    simp only [gExc, List.mem_cons, List.not_mem_nil, or_false] at hE
    rcases hE with rfl | rfl | rfl | rfl
    · exact hts _ (by decide +kernel)
    · exact hts _ (by decide +kernel)
    · exact hts _ (by decide +kernel)
    · exact hts _ (by decide +kernel)
  have hcur : ∃ cur : Nat, s.vm.findClass RX6 = some cur := by
    obtain ⟨cC, kC, hfc, -⟩ := Cond.instantiable_spec (hts (Cond.instantiable "GatedLinks" 10) (by decide +kernel))
    exact ⟨cC, hfc⟩
  obtain ⟨cur, hcur⟩ := hcur
  have hstr : ∀ q ∈ gStr, (Cond.stringRef RX6 q.1 q.2).before #[Value.ref b] s = true := fun q hq => by
    have h : ∀ q ∈ gStr, Cond.stringRef RX6 q.1 q.2 ∈ lw_tbl := by decide +kernel
    exact hts _ (h q hq)
  have hnst : ∀ q ∈ gNst, (Cond.methodLinkNest RX6 q.1 q.2 RX6).before #[Value.ref b] s = true := fun q hq => by
    have h : ∀ q ∈ gNst, Cond.methodLinkNest RX6 q.1 q.2 RX6 ∈ lw_tbl := by decide +kernel
    exact hts _ (h q hq)
  have harr : ∀ C ∈ gArr, (Cond.arrayOver (.object C)).before #[Value.ref b] s = true := fun C hC => by
    have h : ∀ C ∈ gArr, Cond.arrayOver (.object C) ∈ lw_tbl := by decide +kernel
    exact hts _ (h C hC)
  have hdec : ∀ x ∈ gDec, (Cond.declares x).before #[Value.ref b] s = true := fun x hx => by
    have h : ∀ x ∈ gDec, Cond.declares x ∈ lw_tbl := by decide +kernel
    exact hts _ (h x hx)
  have hnc : ∀ E ∈ gExc, ∀ F ∈ gExc, E ≠ F → (Cond.not (.castable E F)).before #[Value.ref b] s = true := fun E hE F hF hn => by
    have h : ∀ E ∈ gExc, ∀ F ∈ gExc, E ≠ F → Cond.not (.castable E F) ∈ flatC (Jvm.Cond.and given_1 narrow_1) := by decide +kernel
    exact hs _ (h E hE F hF hn)
  refine ⟨fun E hE => va_Nw.of rfl (hcs E hE), fun q hq => ?_, fun q hq => va_Nw.of rfl (hnst q hq), fun C hC => va_AO.of (harr C hC), va_AOA.of (hts _ (by decide +kernel)), fun E hE F hF hn => nc_of (hcs E hE) (hcs F hF) (hnc E hE F hF hn), fun x hx => va_Nw.of rfl (hdec x hx)⟩
  obtain ⟨k, cf, i, a, -, -, -, -, -, h6⟩ := Cond.stringRef_spec hcur (hstr q hq)
  exact ⟨a, vk_R.of (hstr q hq) h6⟩
theorem gZ_of {s : State} {b : Nat} {A : Nat → Prop} (hts : ∀ w ∈ lw_tbl, w.before #[Value.ref b] s = true) (hgv : (Jvm.Cond.and given_1 narrow_1).before #[Value.ref b] s = true) (hA : ∀ a : Nat, a < s.heap.size → ¬ A a) : gZ A s s.heap := by
  have hs := flat_of_before _ hgv
  exact ⟨vx_Zqof (hts _ (by decide +kernel)) (hts _ (by decide +kernel)) (hs _ (by decide +kernel)) hA, vx_Zqof (hts _ (by decide +kernel)) (hts _ (by decide +kernel)) (hs _ (by decide +kernel)) hA⟩
theorem whole_start {p : Program} {e : Env} {s : State} {m : MethodId} {below : List Frame} {meth : Method} {c : Code} (l : Launch) (hflags : l.flags = flags0) {b L : Nat} {xs : Nat → Int32} (hL : L ≤ 3584) (C0 : lw_At p s m meth c b L xs) : W p l e room_1 s m #[Value.ref b] below meth c s.heap [] 0 0 (lw_Z below #[Value.ref b] s) (entryFrame m ([Value.ref b] : List Value).toArray 7) := by
  obtain ⟨hx, hb, hr, hml, hown, hts, hX, hbl, hlk, hgv⟩ := C0
  have hst : l.stackTraces = false := by
    unfold Launch.stackTraces
    rw [hflags]
    decide +kernel
  obtain ⟨D, hD⟩ := knX hts
  obtain ⟨dA, hdA⟩ := arX hts
  have hA0 : ∀ a : Nat, a < s.heap.size → ¬ (fun q : Nat => s.heap.size ≤ q) a := fun a h1 h2 => Nat.not_le.mpr h1 h2
  have cx : CX l (p, l, e, room_1, s, m, #[Value.ref b], below, meth, c, fun q : Nat => s.heap.size ≤ q, D, dA, lw_Z below #[Value.ref b] s) cL_law RL 7 room_1 := ⟨hx, hb, hml, hown, fun w hw => hts w (List.mem_filter.mp hw).1, ⟨hD, hdA⟩, fun q h => h, hlk, rfl, rfl, gZ_of hts hgv hA0, gE_of hts hgv⟩
  have hret : ∀ σ k n ls, k ≤ 807546 → n ≤ 6673467 → G (p, l, e, room_1, s, m, #[Value.ref b], below, meth, c, fun q : Nat => s.heap.size ≤ q, D, dA, lw_Z below #[Value.ref b] s) σ k n 1067 ls [.int (iI 1)] := fun σ k n ls hk hn => by
    refine g_widen (k := 807546) (n := 6673467) hk hn ?_
    intro H locs la hP hA hS hL'
    exact va_forget (fun q hq => hS.2.2 q hq) (lw_ret hx hb hr hlk dL_law_1067)
  have h := law_start cx ⟨hX, hbl, hA0 b hbl⟩ hL hst hret
  rw [lg_entry_eq]
  exact h s.heap [] _ (fun a e h => nomatch h) (fun a e h => nomatch h) va_S.rf (gL_entry (av := [Value.ref b]) (nL := 7) (by simp [Value.category]) (Nat.le_of_ble_eq_true rfl))
