/-! THE G LAYER: a heap as a partial function of cells; one judgement, one contract form, a row an instruction -/
def TB : List Cond := lw_tbl.filter goodWord
theorem TB_sub : ∀ w ∈ TB, w ∈ lw_tbl := fun _ h => (List.mem_filter.mp h).1
theorem TB_good : GoodIn TB TB := fun _ h => ⟨h, good_of_word (List.mem_filter.mp h).2⟩
theorem TB_at {w : Cond} (i : Nat) (h : tables_1[i]? = some w) (hg : goodWord w = true) : w ∈ TB := List.mem_filter.mpr ⟨List.mem_append_right _ (List.mem_of_getElem? h), hg⟩
theorem TB_sel {w : Cond} (i : Nat) (h : (k2_sels lw_privs)[i]? = some w) (hg : goodWord w = true) : w ∈ TB := List.mem_filter.mpr ⟨List.mem_append_left _ (List.mem_of_getElem? h), hg⟩
abbrev gcl : List vw_C := [(RX0, TX0, 8), (RX1, TX1, 5), (RX2, TX2, 1), (RX3, TX3, 3), (RX4, TX4, 4), (RX5, TX5, 10), (RX6, TX6, 10), (RX7, TX7, 31)]
def gty (ci : Nat) : Nat → FieldType := match ci with
  | 0 => tyX0
  | 1 => tyX1
  | 2 => tyX2
  | 3 => tyX3
  | 4 => tyX4
  | 5 => tyX5
  | 6 => tyX6
  | _ => tyX7
/-- what is known of each class: its fields' words, types, names -/
def gOk (ci : Nat) (r : vw_C) : Prop := (∀ w ∈ u_ws r.1 r.2.1 r.2.2, w ∈ TB) ∧ (∀ k, k < r.2.2 → parseFieldDescriptor (r.2.1 k).2.2.1 = some (gty ci k)) ∧ (∀ a, a < r.2.2 → ∀ b, b < r.2.2 → a ≠ b → (r.2.1 a).2.1 ≠ (r.2.1 b).2.1)
theorem TB_ofR {ws : List Cond} (h : GoodIn tables_1 ws) (hg : ws.all goodWord = true) : ∀ w ∈ ws, w ∈ TB := fun w hw => List.mem_filter.mpr ⟨List.mem_append_right _ (h w hw).1, List.all_eq_true.mp hg w hw⟩
theorem inT0 : ∀ w ∈ wsX00, w ∈ TB := TB_ofR (goodIn_r (big := tables_1) _ [356, 358, 360, 362, 364, 366, 368, 370] (by decide +kernel) (by decide +kernel)) (by decide +kernel)
theorem inT1 : ∀ w ∈ wsX10, w ∈ TB := TB_ofR (goodIn_r (big := tables_1) _ [111, 113, 115, 117, 119] (by decide +kernel) (by decide +kernel)) (by decide +kernel)
theorem inT2 : ∀ w ∈ wsX20, w ∈ TB := TB_ofR (goodIn_r (big := tables_1) _ [404] (by decide +kernel) (by decide +kernel)) (by decide +kernel)
theorem inT3 : ∀ w ∈ wsX30, w ∈ TB := TB_ofR (goodIn_r (big := tables_1) _ [39, 41, 43] (by decide +kernel) (by decide +kernel)) (by decide +kernel)
theorem inT4 : ∀ w ∈ wsX40, w ∈ TB := TB_ofR (goodIn_r (big := tables_1) _ [312, 314, 316, 318] (by decide +kernel) (by decide +kernel)) (by decide +kernel)
theorem inT5 : ∀ w ∈ wsX50, w ∈ TB := TB_ofR (goodIn_r (big := tables_1) _ [74, 76, 78, 80, 82, 84, 86, 88, 90, 92] (by decide +kernel) (by decide +kernel)) (by decide +kernel)
theorem inT6 : ∀ w ∈ wsX60, w ∈ TB := TB_ofR (goodIn_r (big := tables_1) _ [132, 134, 136, 138, 140, 142, 144, 146, 148, 150] (by decide +kernel) (by decide +kernel)) (by decide +kernel)
theorem inT7 : ∀ w ∈ wsX70, w ∈ TB := TB_ofR (goodIn_r (big := tables_1) _ [651, 653, 655, 657, 659, 661, 663, 665, 667, 669, 671, 673, 675, 677, 679, 681, 683, 685, 687, 689, 691, 693, 695, 697, 699, 701, 703, 705, 707, 709, 711] (by decide +kernel) (by decide +kernel)) (by decide +kernel)
theorem gOk_all (ci : Nat) (r : vw_C) (h : gcl[ci]? = some r) : gOk ci r := by
  match ci, h with
  | 0, h => cases h; exact ⟨inT0, tyX0_ok, nmX0⟩
  | 1, h => cases h; exact ⟨inT1, tyX1_ok, nmX1⟩
  | 2, h => cases h; exact ⟨inT2, tyX2_ok, nmX2⟩
  | 3, h => cases h; exact ⟨inT3, tyX3_ok, nmX3⟩
  | 4, h => cases h; exact ⟨inT4, tyX4_ok, nmX4⟩
  | 5, h => cases h; exact ⟨inT5, tyX5_ok, nmX5⟩
  | 6, h => cases h; exact ⟨inT6, tyX6_ok, nmX6⟩
  | 7, h => cases h; exact ⟨inT7, tyX7_ok, nmX7⟩
  | k + 8, h => simp [gcl] at h
def gF (own : String) (idx ci k : Nat) : Prop := ∃ r : vw_C, gcl[ci]? = some r ∧ k < r.2.2 ∧ (Cond.fieldLink own idx (r.2.1 k).1 (r.2.1 k).2.1 (r.2.1 k).2.2.1) ∈ TB
def gV (own : String) (idx : Nat) (y : MethodName) (w0 : Cond) : Prop := Cond.methodLink own idx y ∈ TB ∧ Cond.instanceMethod y ∈ TB ∧ Cond.selects y.cls y y ∈ TB ∧ Cond.initialized y.cls ∈ TB ∧ w0 ∈ TB
def gS (own : String) (idx : Nat) (y : MethodName) (w0 : Cond) : Prop := Cond.methodLink own idx y ∈ TB ∧ Cond.static y ∈ TB ∧ Cond.initialized y.cls ∈ TB ∧ w0 ∈ TB
def gI (own : String) (idx : Nat) (y : MethodName) (w0 : Cond) : Prop := Cond.methodLink own idx y ∈ TB ∧ Cond.instanceMethod y ∈ TB ∧ Cond.initialized y.cls ∈ TB ∧ w0 ∈ TB
abbrev hS : Type := Nat → Option va_E
def hup (σ : hS) (a : Nat) (e : va_E) : hS := fun q => if q = a then some e else σ q
def gA (σ : hS) (sz : Nat) : Nat → Prop := fun q => σ q ≠ none ∨ sz ≤ q
def hP (D : va_G) (σ : hS) (H : Heap) : Prop := ∀ a e, σ a = some e → va_at D gcl (a, e) H
def tyL (dA : Nat → ClassId) : List (ClassId × FieldType) := [(dA 0, .int), (dA 1, .boolean), (dA 2, .object "GatedLinks$PlannedStream"), (dA 3, .object "GatedLinks$Port"), (dA 4, .object "GatedLinks$Stream"), (dA 5, .object "GatedLinks$Talker"), (dA 6, .array .int), (dA 7, .long)]
theorem hup_s (σ : hS) (a : Nat) (e : va_E) : hup σ a e a = some e := if_pos rfl
theorem hup_n {σ : hS} {a q : Nat} {e : va_E} (h : q ≠ a) : hup σ a e q = σ q := if_neg h
theorem hP.one {D : va_G} {σ : hS} {H : Heap} (h : hP D σ H) {a : Nat} {e : va_E} (he : σ a = some e) : va_P D gcl [(a, e)] H := by
  intro k q hk
  match k, hk with
  | 0, hk => cases hk; exact h a e he
  | k + 1, hk => simp at hk
theorem hP.lt {D : va_G} {σ : hS} {H : Heap} (h : hP D σ H) {a : Nat} {e : va_E} (he : σ a = some e) : a < H.size := (h a e he).lt
theorem hP.put {D : va_G} {σ : hS} {H H1 : Heap} (h : hP D σ H) {a : Nat} {e : va_E} (he : va_at D gcl (a, e) H1) (oq : ∀ q : Nat, q ≠ a → H1[q]? = H[q]?) : hP D (hup σ a e) H1 := by
  intro b e' hb
  by_cases hba : b = a
  · subst hba
    rw [hup_s] at hb
    cases hb
    exact he
  · rw [hup_n hba] at hb
    exact (h b e' hb).kept (oq b hba)
theorem hP.push {D : va_G} {σ : hS} {H H1 : Heap} (h : hP D σ H) {a : Nat} {e : va_E} (he : va_at D gcl (a, e) H1) (ha : H.size ≤ a) (oq : ∀ q : Nat, q < H.size → H1[q]? = H[q]?) : hP D (hup σ a e) H1 := by
  intro b e' hb
  by_cases hba : b = a
  · subst hba
    rw [hup_s] at hb
    cases hb
    exact he
  · rw [hup_n hba] at hb
    exact (h b e' hb).kept (oq b (h.lt hb))
/-- the locals: none: not set -/
abbrev gLs : Type := List (Option Value)
def gL (la : Array Slot) (ls : gLs) : Prop := la.size = ls.length ∧ lv_wf la ∧ ∀ (i : Nat) (v : Value), ls[i]? = some (some v) → la[i]? = some (.val v) ∧ v.category = 1
def gps (ls : gLs) : List (Nat × Value) := (List.range ls.length).filterMap (fun i => (ls[i]?.join).map (fun v => (i, v)))
theorem gps_mem {ls : gLs} {i : Nat} {v : Value} : (i, v) ∈ gps ls ↔ ls[i]? = some (some v) := by
  unfold gps
  constructor
  · intro h
    obtain ⟨j, -, hj⟩ := List.mem_filterMap.mp h
    cases hx : ls[j]? with
    | none => simp [hx] at hj
    | some o =>
      cases o with
      | none => simp [hx] at hj
      | some w =>
        simp [hx] at hj
        obtain ⟨rfl, rfl⟩ := hj
        exact hx
  · intro h
    exact List.mem_filterMap.mpr ⟨i, List.mem_range.mpr (List.getElem?_eq_some_iff.mp h).1, by simp [h]⟩
theorem gL.has {la : Array Slot} {ls : gLs} (h : gL la ls) : lv_has la ls.length (gps ls) := ⟨h.1, h.2.1, fun q hq => (h.2.2 q.1 q.2 (gps_mem.mp hq)).1⟩
theorem gL.store {la la' : Array Slot} {ls : gLs} {i : Nat} {v : Value} (h : gL la ls) (hi : i < ls.length) (hc : v.category = 1) (h' : lv_has la' ls.length ((i, v) :: (gps ls).filter (fun q => !(q.1 == i) && !(q.1 + 1 == i && q.2.category == 2)))) : gL la' (ls.set i (some v)) := by
  refine ⟨by rw [List.length_set]; exact h'.1, h'.2.1, fun j w hj => ?_⟩
  by_cases hji : j = i
  · subst hji
    rw [List.getElem?_set_self hi] at hj
    cases hj
    exact ⟨h'.2.2 (j, v) List.mem_cons_self, hc⟩
  · rw [List.getElem?_set_ne (Ne.symm hji)] at hj
    have hw := (h.2.2 j w hj).2
    refine ⟨h'.2.2 (j, w) (List.mem_cons_of_mem _ (List.mem_filter.mpr ⟨gps_mem.mpr hj, ?_⟩)), hw⟩
    simp [hji, hw]
/-- the machine, and where a method stands in it -/
abbrev gC : Type := Program × Launch × Env × Room × State × MethodId × Array Value × List Frame × Method × Code × (Nat → Prop) × va_G × (Nat → ClassId) × (State → Prop)
def G (Γ : gC) (σ : hS) (k n pc : Nat) (ls : gLs) (st : List Value) : Prop := match Γ with
  | (p, l, e, R, s, m, args, below, meth, c, A, D, _, Q) => ∀ (H : Heap) (locs : List Loc) (la : Array Slot), hP D σ H → (∀ a e, σ a = some e → A a) → va_S A s.heap H locs → gL la ls → W p l e R s m args below meth c H locs k n Q (F0 m pc la st)
/-- the same, with a thrown exception of class E over the frame -/
def GX (Γ : gC) (σ : hS) (k n pc : Nat) (ls : gLs) (st : List Value) (E : String) : Prop := match Γ with
  | (p, l, e, R, s, m, args, below, meth, c, A, D, _, Q) => ∀ (H : Heap) (locs : List Loc) (la : Array Slot) (q : Addr) (ce : Cell), hP D σ H → (∀ a e, σ a = some e → A a) → va_S A s.heap H locs → gL la ls → H[q]? = some ce → ce.vm = .none → s.vm.findClass E = some ce.cls → vx_W p l e R s m args below meth c H locs k n Q (F0 m pc la st) q
/-- the two static fields that a throw reads -/
def gZ (A : Nat → Prop) (U : State) (H : Heap) : Prop := vx_Zq Bundle.tN "UNASSIGNED_STACK" Bundle.steD A U H ∧ vx_Zq Bundle.tN "SUPPRESSED_SENTINEL" Bundle.listD A U H
theorem gZ.moved {A : Nat → Prop} {u U : State} {H : Heap} (hvm : u.vm.Alike U.vm) (h : gZ A u H) : gZ A U H := ⟨h.1.moved hvm, h.2.moved hvm⟩
theorem gZ.kept {A : Nat → Prop} {U : State} {H H1 : Heap} (h : gZ A U H) (hq : ∀ a : Nat, a < H.size → ¬ A a → H1[a]? = H[a]?) : gZ A U H1 := ⟨h.1.kept hq, h.2.kept hq⟩
theorem gZ.narrow {A B : Nat → Prop} {U : State} {H : Heap} (h : gZ A U H) (hAB : ∀ q, B q → A q) : gZ B U H := ⟨h.1.narrow hAB, h.2.narrow hAB⟩
/-- what else of the tables is needed: casts of the thrown classes, strings, nest links, array classes -/
def gExc : List String := ["java/lang/IndexOutOfBoundsException", "java/lang/IllegalArgumentException", "java/lang/UnsupportedOperationException", "java/util/NoSuchElementException"]
def gStr : List (Nat × String) := [(206, "no such link"), (46, "a delay is 0 .. 9 ticks"), (58, "a path is one to three different links"), (64, "no such period, size or deadline"), (72, "there are five streams"), (82, "tries are 0 .. 20000"), (210, "no schedule was found"), (114, "no such stream in the schedule that was found"), (120, "a tick of a gate is 0 .. 31"), (129, "ticks are 1 .. 200"), (217, "no such stream in force"), (140, "a talker is 0 .. 7 ticks late"), (158, "a frame that waits has 1 .. 8 ticks"), (163, "four frames wait"), (183, "of a stream 0 .. 5 is told"), (192, "of a link 0 .. 3 is told"), (201, "streams are told of 0 .. 3")]
def gNst : List (Nat × MethodName) := [(21, yX3_init), (38, yX5_init), (39, yX1_init)]
def gArr : List String := ["GatedLinks$Stream", "GatedLinks$Talker", "GatedLinks$Port", "GatedLinks$PlannedStream"]
def gDec : List MethodName := [⟨"java/lang/RuntimeException", "<init>", "(Ljava/lang/String;)V"⟩, ⟨"java/lang/Exception", "<init>", "(Ljava/lang/String;)V"⟩, ⟨"java/lang/Throwable", "<init>", "(Ljava/lang/String;)V"⟩]
def gE (U : State) : Prop := (∀ E ∈ gExc, va_Nw (.castable E E) U) ∧ (∀ q ∈ gStr, ∃ a, vk_R RX6 q.1 q.2 a U) ∧ (∀ q ∈ gNst, va_Nw (.methodLinkNest RX6 q.1 q.2 RX6) U) ∧ (∀ C ∈ gArr, va_AO C U) ∧ va_AOA .int U ∧ (∀ E ∈ gExc, ∀ F ∈ gExc, E ≠ F → va_Nc E F U) ∧ ∀ x ∈ gDec, va_Nw (.declares x) U
theorem va_AOA.moved {ty : FieldType} {u U : State} (hvm : u.vm.Alike U.vm) (h : va_AOA ty u) : va_AOA ty U := arrayOver_alikeB hvm h
theorem gE.same {u U : State} (hv : u.vm = U.vm) (h : gE u) : gE U := ⟨fun E hE => (h.1 E hE).same rfl hv, fun q hq => (h.2.1 q hq).imp fun a ha => ha.same hv.symm, fun q hq => (h.2.2.1 q hq).same rfl hv, fun C hC => (h.2.2.2.1 C hC).moved (by rw [hv]; exact Vm.Alike.refl _), h.2.2.2.2.1.moved (by rw [hv]; exact Vm.Alike.refl _), fun E hE F hF hn => (h.2.2.2.2.2.1 E hE F hF hn).moved (by rw [hv]; exact Vm.Alike.refl _), fun x hx => (h.2.2.2.2.2.2 x hx).same rfl hv⟩
theorem gE.warm {s U : State} (hW : s.WarmedH U.vm) (h : gE s) : gE U := ⟨fun E hE => (h.1 E hE).warmC hW, fun q hq => (h.2.1 q hq).imp fun a ha => ha.warm hW, fun q hq => (h.2.2.1 q hq).warmM hW, fun C hC => (h.2.2.2.1 C hC).moved hW.alike, h.2.2.2.2.1.moved hW.alike, fun E hE F hF hn => (h.2.2.2.2.2.1 E hE F hF hn).moved hW.alike, fun x hx => (h.2.2.2.2.2.2 x hx).warmD hW⟩
/-- what holds all through a method's body -/
def gdA (Γ : gC) : Nat → ClassId := Γ.2.2.2.2.2.2.2.2.2.2.2.2.1
def CX (l0 : Launch) (Γ : gC) (cc : ByteArray) (own : String) (nL : Nat) (R0 : Room) : Prop := match Γ with
  | (p, l, _, R, s, m, args, _, meth, c, A, D, dA, _) => p.tables.exec = Jvm.exec ∧ c.code = cc ∧ c.maxLocals = nL ∧ s.vm.findClass own = some m.cls ∧ (∀ w ∈ TB, w.before args s = true) ∧ va_K D gcl (tyL dA) s ∧ (∀ q, s.heap.size ≤ q → A q) ∧ meth.locks = false ∧ l = l0 ∧ R = R0 ∧ gZ A s s.heap ∧ gE s
/-- a contract: from every heap that holds σ, on the arguments av -/
def gB (D : va_G) (dA : Nat → ClassId) (σ : hS) (sz : Nat) (U : State) : Prop := hP D σ U.heap ∧ va_K D gcl (tyL dA) U ∧ U.heap.size = sz ∧ gZ (gA σ sz) U U.heap ∧ gE U
def gQc (D : va_G) (σ : hS) (sz : Nat) (Post : Option Value → hS → Prop) : Array Value → State → Outcome → State → Prop := fun _ st o t => ∃ (v : Option Value) (σ' : hS), o = .returned v ∧ Post v σ' ∧ hP D σ' t.heap ∧ (∀ a e, σ' a = some e → gA σ sz a) ∧ va_F (gA σ sz) st t
def gXc (D : va_G) (σ : hS) (sz : Nat) (PX : String → hS → Prop) : String → State → State → Prop := fun E st t => ∃ σ' : hS, PX E σ' ∧ hP D σ' t.heap ∧ (∀ a e, σ' a = some e → gA σ sz a) ∧ va_F (gA σ sz) st t
def gM (l : Launch) (dA : Nat → ClassId) (y : MethodName) (w0 : Cond) (rm : Room) (σ : hS) (av : List Value) (Post : Option Value → hS → Prop) (PX : String → hS → Prop) : Prop :=
  ∀ (D : va_G) (sz : Nat), vx_Met l y (w0 :: TB) rm (va_Pc av (gB D dA σ sz)) (gQc D σ sz Post) (gXc D σ sz PX) rm.cells rm.slots (gA σ sz)
/-- what a return needs to know -/
def RX (Γ : gC) (ret : Option FieldType) (rm : Room) (Post : Option Value → hS → Prop) (PX : String → hS → Prop) : Prop := match Γ with
  | (_, _, _, _, s, _, args, below, meth, _, A, D, _, Q) => meth.sig.returnType = ret ∧ ∃ (σ0 : hS) (sz : Nat), A = gA σ0 sz ∧ Q = vx_MQ below (gQc D σ0 sz Post) (gXc D σ0 sz PX) args s rm.cells rm.slots (gA σ0 sz)
/-- no handlers -/
def NX (Γ : gC) : Prop := match Γ with
  | (_, _, _, _, _, _, _, _, _, c, _, _, _, _) => ∀ x ∈ c.exceptionTable.toList, False
theorem gPc_blind {av : List Value} {D : va_G} {dA : Nat → ClassId} {σ : hS} {sz : Nat} : FrameBlind (va_Pc av (gB D dA σ sz)) := fun a U g mk h => ⟨h.1, h.2.1, va_K.moved (u := U) (U := U.calling g mk a) (Vm.Alike.refl U.vm) h.2.2.1, h.2.2.2.1, gZ.moved (u := U) (U := U.calling g mk a) (Vm.Alike.refl U.vm) h.2.2.2.2.1, gE.same (u := U) (U := U.calling g mk a) rfl h.2.2.2.2.2⟩
theorem lg_sl1 : ∀ (av : List Value), (∀ v ∈ av, v.category = 1) → lg_sl av = av.map Slot.val
  | [], _ => rfl
  | v :: t, h => by
    have h1 := h v List.mem_cons_self
    have h2 := lg_sl1 t (fun w hw => h w (List.mem_cons_of_mem _ hw))
    unfold lg_sl at h2 ⊢
    rw [List.flatMap_cons, h2, if_neg (by rw [h1]; decide)]
    rfl
theorem gL_entry {av : List Value} {nL : Nat} (hn : ∀ v ∈ av, v.category = 1) (hlen : av.length ≤ nL) : gL ((lg_sl av ++ List.replicate (nL - (lg_sl av).length) Slot.unset).toArray) (av.map some ++ List.replicate (nL - av.length) none) := by
  have e := lg_sl1 av hn
  have hl : (lg_sl av).length = av.length := by rw [e, List.length_map]
  have h := lv_entry av (n := nL) (by rw [hl]; exact hlen)
  refine ⟨by simp [hl], h.2.1, fun i v hi => ?_⟩
  have hlt : i < av.length := by
    rcases Nat.lt_or_ge i av.length with q | q
    · exact q
    · rw [List.getElem?_append_right (by rw [List.length_map]; exact q)] at hi
      have := List.mem_of_getElem? hi
      have := List.eq_of_mem_replicate this
      cases this
  rw [List.getElem?_append_left (by rw [List.length_map]; exact hlt), List.getElem?_map] at hi
  cases hv : av[i]? with
  | none => rw [hv] at hi; cases hi
  | some w =>
    rw [hv] at hi
    simp at hi
    subst hi
    refine ⟨?_, hn _ (List.mem_of_getElem? hv)⟩
    rw [List.getElem?_toArray, List.getElem?_append_left (by rw [hl]; exact hlt), e, List.getElem?_map, hv]
    rfl
theorem gM_body {l : Launch} {dA : Nat → ClassId} {y : MethodName} {cc : ByteArray} {nL : Nat} {ret : Option FieldType} {rm : Room} {σ : hS} {av : List Value} {Post : Option Value → hS → Prop} {PX : String → hS → Prop} (hy : plainName y.cls = true) (hn : ∀ v ∈ av, v.category = 1) (hlen : av.length ≤ nL)
    (body : ∀ Γ : gC, gdA Γ = dA → CX l Γ cc y.cls nL rm → RX Γ ret rm Post PX → NX Γ → G Γ σ 0 0 0 (av.map some ++ List.replicate (nL - av.length) none) []) : gM l dA y (.code y cc nL ret) rm σ av Post PX := by
  intro D sz
  refine vx_ofW (ws' := TB) hy rfl ?_
  intro p e s m args below meth c s₁ B hml hxt hv
  obtain ⟨rfl, hP, hK, hsz, hZ, hE⟩ := hv
  subst hsz
  have hown : s.vm.findClass y.cls = some m.cls := findClass_of_methodNamed B.named
  have hts0 := atoms_spec B.pre
  rw [lg_entry_eq]
  have hb := body (p, l, e, (headSpec (Cond.code y cc nL ret :: TB) rm).room, s, m, av.toArray, below, meth, c, gA σ s.heap.size, D, dA, vx_MQ below (gQc D σ s.heap.size Post) (gXc D σ s.heap.size PX) av.toArray s rm.cells rm.slots (gA σ s.heap.size))
    rfl ⟨B.exec, B.bytes, hml, hown, fun w hw => hts0 w (List.mem_cons_of_mem _ hw), hK, fun q h => Or.inr h, B.notSynchronized, rfl, rfl, hZ, hE⟩ ⟨B.returns, σ, s.heap.size, rfl, rfl⟩ hxt
  exact hb s.heap [] _ hP (fun a e h => Or.inl (by rw [h]; exact fun q => by cases q)) va_S.rf (gL_entry hn hlen)
