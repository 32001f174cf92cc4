/-! constructors (walks laid by program) -/
theorem nw_int (N : Nat) : ∀ cA : ClassId, vp_cell cA (N, .inl (fun _ => iI 0)) = arrV cA N (fun _ => defaultValue .int) := fun _ => rfl
theorem nw_boolean (N : Nat) : ∀ cA : ClassId, vp_cell cA (N, .inl (fun _ => iI 0)) = arrV cA N (fun _ => defaultValue .boolean) := fun _ => rfl
theorem nw_long (N : Nat) : ∀ cA : ClassId, vp_cell cA (N, .inr (.inl (fun _ => 0))) = arrV cA N (fun _ => defaultValue .long) := fun _ => rfl
theorem dfX0 : ∀ j, j < 8 → defaultValue (gty 0 j) = vp_V [.int (iI 0), .int (iI 0), .int (iI 0), .null, .null, .null, .null, .int (iI 0)] j := fun j hj => by
  have h : j = 0 ∨ j = 1 ∨ j = 2 ∨ j = 3 ∨ j = 4 ∨ j = 5 ∨ j = 6 ∨ j = 7 := by omega
  rcases h with rfl | rfl | rfl | rfl | rfl | rfl | rfl | rfl <;> rfl
theorem dfX1 : ∀ j, j < 5 → defaultValue (gty 1 j) = vp_V [.int (iI 0), .int (iI 0), .null, .int (iI 0), .int (iI 0)] j := fun j hj => by
  have h : j = 0 ∨ j = 1 ∨ j = 2 ∨ j = 3 ∨ j = 4 := by omega
  rcases h with rfl | rfl | rfl | rfl | rfl <;> rfl
theorem dfX2 : ∀ j, j < 1 → defaultValue (gty 2 j) = vp_V [.null] j := fun j hj => by
  have h : j = 0 := by omega
  rcases h with rfl <;> rfl
theorem dfX3 : ∀ j, j < 3 → defaultValue (gty 3 j) = vp_V [.int (iI 0), .null, .null] j := fun j hj => by
  have h : j = 0 ∨ j = 1 ∨ j = 2 := by omega
  rcases h with rfl | rfl | rfl <;> rfl
theorem dfX4 : ∀ j, j < 4 → defaultValue (gty 4 j) = vp_V [.int (iI 0), .int (iI 0), .int (iI 0), .null] j := fun j hj => by
  have h : j = 0 ∨ j = 1 ∨ j = 2 ∨ j = 3 := by omega
  rcases h with rfl | rfl | rfl | rfl <;> rfl
theorem dfX5 : ∀ j, j < 10 → defaultValue (gty 5 j) = vp_V [.null, .int (iI 0), .int (iI 0), .int (iI 0), .int (iI 0), .int (iI 0), .int (iI 0), .int (iI 0), .int (iI 0), .null] j := fun j hj => by
  have h : j = 0 ∨ j = 1 ∨ j = 2 ∨ j = 3 ∨ j = 4 ∨ j = 5 ∨ j = 6 ∨ j = 7 ∨ j = 8 ∨ j = 9 := by omega
  rcases h with rfl | rfl | rfl | rfl | rfl | rfl | rfl | rfl | rfl | rfl <;> rfl
theorem dfX6 : ∀ j, j < 10 → defaultValue (gty 6 j) = vp_V [.null, .null, .int (iI 0), .null, .null, .null, .null, .null, .null, .int (iI 0)] j := fun j hj => by
  have h : j = 0 ∨ j = 1 ∨ j = 2 ∨ j = 3 ∨ j = 4 ∨ j = 5 ∨ j = 6 ∨ j = 7 ∨ j = 8 ∨ j = 9 := by omega
  rcases h with rfl | rfl | rfl | rfl | rfl | rfl | rfl | rfl | rfl | rfl <;> rfl

theorem gy_X3_init : gY yX3_init 0 := ⟨by decide +kernel, by decide +kernel, by decide +kernel⟩
theorem gy_X5_init : gY yX5_init 0 := ⟨by decide +kernel, by decide +kernel, by decide +kernel⟩
theorem gy_X1_init : gY yX1_init 0 := ⟨by decide +kernel, by decide +kernel, by decide +kernel⟩
set_option maxRecDepth 100000 in
set_option maxHeartbeats 4000000 in
theorem c_X5_init {lc : Launch} {dA : Nat → ClassId} {σ0 : hS} {a : Nat} (h0 : σ0 a = some (.inr (5, [.null, .int (iI 0), .int (iI 0), .int (iI 0), .int (iI 0), .int (iI 0), .int (iI 0), .int (iI 0), .int (iI 0), .null]))) : gM lc dA yX5_init (.code yX5_init cX5_init 1 none) { frames := 1, cells := 1, slots := 8, locals := 40 } σ0 [.ref a] (fun v σ9 => v = none ∧ ∃ q1, hld σ0 [(a, .inr (5, [.null, .int (iI 0), .int (iI 0), .int (iI 0), .int (iI 0), .int (iI 0), .int (iI 0), .int (iI 0), .int (iI 0), .ref q1])), (q1, .inl (dA 0, 8, .inl (fun _ => iI 0)))] σ9) nX := by
  refine gM_bodyI (by decide +kernel) rfl (by simp [Value.category]) (Nat.le_of_ble_eq_true rfl) (fun Γ hdA cx ix rx nx => ?_)
  subst hdA
  have cx : CX lc Γ cX5_init RX5 1 { frames := 1, cells := 1, slots := 8, locals := 40 } := cx
  show G Γ σ0 0 0 0 [some (.ref a)] []
  have hd := hld.one h0
  refine z_al_1_0 (pc := 0) cx dX5_init_0 ?_
  refine g_objInit (pc := 1) cx (TB_at 55 (by decide +kernel) (by decide +kernel)) (TB_at 23 (by decide +kernel) (by decide +kernel)) (TB_at 24 (by decide +kernel) (by decide +kernel)) rfl (by decide) (by decide) dX5_init_1 ?_
  refine z_al_1_0 (pc := 4) cx dX5_init_4 ?_
  refine z_bipush (pc := 5) cx rfl dX5_init_5 ?_
  refine i_newa (pc := 7) (atype := .int) (ty := .int) (t := 0) (N := 8) (a0 := (8, .inl (fun _ => iI 0))) cx hd (Nat.zero_lt_succ _) rfl (TB_at 46 (by decide +kernel) (by decide +kernel)) rfl (nw_int 8) (by decide) rfl (by decide) (by decide) (by decide) dX5_init_7 (fun q1 σ hd => ?_)
  have hd : hld σ0 [(a, .inr (5, [.null, .int (iI 0), .int (iI 0), .int (iI 0), .int (iI 0), .int (iI 0), .int (iI 0), .int (iI 0), .int (iI 0), .null])), (q1, .inl (gdA Γ 0, 8, .inl (fun _ => iI 0)))] σ := hd
  refine i_putF (pc := 9) cx ix hd (i := 0) rfl ⟨_, rfl, rfl⟩ fl_X5_9 rfl (show (9 : Nat) < 10 by decide) rfl rfl dX5_init_9 (fun σ hd => ?_)
  have hd : hld σ0 [(a, .inr (5, [.null, .int (iI 0), .int (iI 0), .int (iI 0), .int (iI 0), .int (iI 0), .int (iI 0), .int (iI 0), .int (iI 0), .ref q1])), (q1, .inl (gdA Γ 0, 8, .inl (fun _ => iI 0)))] σ := hd
  exact g_return (pc := 12) cx rx (by decide) (by decide) dX5_init_12 ⟨rfl, q1, hd⟩

set_option maxRecDepth 100000 in
set_option maxHeartbeats 4000000 in
theorem c_X1_init {lc : Launch} {dA : Nat → ClassId} {σ0 : hS} {a : Nat} (h0 : σ0 a = some (.inr (1, [.int (iI 0), .int (iI 0), .null, .int (iI 0), .int (iI 0)]))) : gM lc dA yX1_init (.code yX1_init cX1_init 1 none) { frames := 1, cells := 1, slots := 4, locals := 40 } σ0 [.ref a] (fun v σ9 => v = none ∧ ∃ q1, hld σ0 [(a, .inr (1, [.int (iI 0), .int (iI 0), .ref q1, .int (iI 0), .int (iI 0)])), (q1, .inl (dA 0, 4, .inl (fun _ => iI 0)))] σ9) nX := by
  refine gM_bodyI (by decide +kernel) rfl (by simp [Value.category]) (Nat.le_of_ble_eq_true rfl) (fun Γ hdA cx ix rx nx => ?_)
  subst hdA
  have cx : CX lc Γ cX1_init RX1 1 { frames := 1, cells := 1, slots := 4, locals := 40 } := cx
  show G Γ σ0 0 0 0 [some (.ref a)] []
  have hd := hld.one h0
  refine z_al_1_0 (pc := 0) cx dX1_init_0 ?_
  refine g_objInit (pc := 1) cx (TB_at 99 (by decide +kernel) (by decide +kernel)) (TB_at 23 (by decide +kernel) (by decide +kernel)) (TB_at 24 (by decide +kernel) (by decide +kernel)) rfl (by decide) (by decide) dX1_init_1 ?_
  refine z_al_1_0 (pc := 4) cx dX1_init_4 ?_
  refine z_iconst (pc := 5) cx dX1_init_5 ?_
  refine i_newa (pc := 6) (atype := .int) (ty := .int) (t := 0) (N := 4) (a0 := (4, .inl (fun _ => iI 0))) cx hd (Nat.zero_lt_succ _) rfl (TB_at 46 (by decide +kernel) (by decide +kernel)) rfl (nw_int 4) (by decide) rfl (by decide) (by decide) (by decide) dX1_init_6 (fun q1 σ hd => ?_)
  have hd : hld σ0 [(a, .inr (1, [.int (iI 0), .int (iI 0), .null, .int (iI 0), .int (iI 0)])), (q1, .inl (gdA Γ 0, 4, .inl (fun _ => iI 0)))] σ := hd
  refine i_putF (pc := 8) cx ix hd (i := 0) rfl ⟨_, rfl, rfl⟩ fl_X1_9 rfl (show (2 : Nat) < 5 by decide) rfl rfl dX1_init_8 (fun σ hd => ?_)
  have hd : hld σ0 [(a, .inr (1, [.int (iI 0), .int (iI 0), .ref q1, .int (iI 0), .int (iI 0)])), (q1, .inl (gdA Γ 0, 4, .inl (fun _ => iI 0)))] σ := hd
  exact g_return (pc := 11) cx rx (by decide) (by decide) dX1_init_11 ⟨rfl, q1, hd⟩

set_option maxRecDepth 100000 in
set_option maxHeartbeats 4000000 in
theorem c_X2_init {lc : Launch} {dA : Nat → ClassId} {σ0 : hS} {a : Nat} {arr : Nat} (h0 : σ0 a = some (.inr (2, [.null]))) : gM lc dA yX2_init (.code yX2_init cX2_init 2 none) { frames := 1, cells := 0, slots := 0, locals := 40 } σ0 [.ref a, .ref arr] (fun v σ9 => v = none ∧ hld σ0 [(a, .inr (2, [.ref arr]))] σ9) nX := by
  refine gM_bodyI (by decide +kernel) rfl (by simp [Value.category]) (Nat.le_of_ble_eq_true rfl) (fun Γ hdA cx ix rx nx => ?_)
  subst hdA
  have cx : CX lc Γ cX2_init RX2 2 { frames := 1, cells := 0, slots := 0, locals := 40 } := cx
  show G Γ σ0 0 0 0 [some (.ref a), some (.ref arr)] []
  have hd := hld.one h0
  refine z_al_2_0 (pc := 0) cx dX2_init_0 ?_
  refine g_objInit (pc := 1) cx (TB_at 401 (by decide +kernel) (by decide +kernel)) (TB_at 23 (by decide +kernel) (by decide +kernel)) (TB_at 24 (by decide +kernel) (by decide +kernel)) rfl (by decide) (by decide) dX2_init_1 ?_
  refine z_al_2_0 (pc := 4) cx dX2_init_4 ?_
  refine z_al_2_1 (pc := 5) cx dX2_init_5 ?_
  refine i_putF (pc := 6) cx ix hd (i := 0) rfl ⟨_, rfl, rfl⟩ fl_X2_9 rfl (show (0 : Nat) < 1 by decide) rfl rfl dX2_init_6 (fun σ hd => ?_)
  have hd : hld σ0 [(a, .inr (2, [.ref arr]))] σ := hd
  exact g_return (pc := 9) cx rx (by decide) (by decide) dX2_init_9 ⟨rfl, hd⟩

set_option maxRecDepth 100000 in
set_option maxHeartbeats 4000000 in
theorem c_X4_init {lc : Launch} {dA : Nat → ClassId} {σ0 : hS} {a : Nat} {p s d : Int} {pa : Nat} (h0 : σ0 a = some (.inr (4, [.int (iI 0), .int (iI 0), .int (iI 0), .null]))) : gM lc dA yX4_init (.code yX4_init cX4_init 5 none) { frames := 1, cells := 0, slots := 0, locals := 40 } σ0 [.ref a, .int (iI p), .int (iI s), .int (iI d), .ref pa] (fun v σ9 => v = none ∧ hld σ0 [(a, .inr (4, [.int (iI p), .int (iI s), .int (iI d), .ref pa]))] σ9) nX := by
  refine gM_bodyI (by decide +kernel) rfl (by simp [Value.category]) (Nat.le_of_ble_eq_true rfl) (fun Γ hdA cx ix rx nx => ?_)
  subst hdA
  have cx : CX lc Γ cX4_init RX4 5 { frames := 1, cells := 0, slots := 0, locals := 40 } := cx
  show G Γ σ0 0 0 0 [some (.ref a), some (.int (iI p)), some (.int (iI s)), some (.int (iI d)), some (.ref pa)] []
  have hd := hld.one h0
  refine z_al_5_0 (pc := 0) cx dX4_init_0 ?_
  refine g_objInit (pc := 1) cx (TB_at 303 (by decide +kernel) (by decide +kernel)) (TB_at 23 (by decide +kernel) (by decide +kernel)) (TB_at 24 (by decide +kernel) (by decide +kernel)) rfl (by decide) (by decide) dX4_init_1 ?_
  refine z_al_5_0 (pc := 4) cx dX4_init_4 ?_
  refine z_il_5_1 (pc := 5) cx dX4_init_5 ?_
  refine i_putF (pc := 6) cx ix hd (i := 0) rfl ⟨_, rfl, rfl⟩ fl_X4_7 rfl (show (0 : Nat) < 4 by decide) rfl rfl dX4_init_6 (fun σ hd => ?_)
  have hd : hld σ0 [(a, .inr (4, [.int (iI p), .int (iI 0), .int (iI 0), .null]))] σ := hd
  refine z_al_5_0 (pc := 9) cx dX4_init_9 ?_
  refine z_il_5_2 (pc := 10) cx dX4_init_10 ?_
  refine i_putF (pc := 11) cx ix hd (i := 0) rfl ⟨_, rfl, rfl⟩ fl_X4_13 rfl (show (1 : Nat) < 4 by decide) rfl rfl dX4_init_11 (fun σ hd => ?_)
  have hd : hld σ0 [(a, .inr (4, [.int (iI p), .int (iI s), .int (iI 0), .null]))] σ := hd
  refine z_al_5_0 (pc := 14) cx dX4_init_14 ?_
  refine z_il_5_3 (pc := 15) cx dX4_init_15 ?_
  refine i_putF (pc := 16) cx ix hd (i := 0) rfl ⟨_, rfl, rfl⟩ fl_X4_16 rfl (show (2 : Nat) < 4 by decide) rfl rfl dX4_init_16 (fun σ hd => ?_)
  have hd : hld σ0 [(a, .inr (4, [.int (iI p), .int (iI s), .int (iI d), .null]))] σ := hd
  refine z_al_5_0 (pc := 19) cx dX4_init_19 ?_
  refine z_al_5_4 (pc := 20) cx dX4_init_20 ?_
  refine i_putF (pc := 22) cx ix hd (i := 0) rfl ⟨_, rfl, rfl⟩ fl_X4_19 rfl (show (3 : Nat) < 4 by decide) rfl rfl dX4_init_22 (fun σ hd => ?_)
  have hd : hld σ0 [(a, .inr (4, [.int (iI p), .int (iI s), .int (iI d), .ref pa]))] σ := hd
  exact g_return (pc := 25) cx rx (by decide) (by decide) dX4_init_25 ⟨rfl, hd⟩

set_option maxRecDepth 100000 in
set_option maxHeartbeats 4000000 in
theorem c_X3_init {lc : Launch} {dA : Nat → ClassId} {σ0 : hS} {a : Nat} (h0 : σ0 a = some (.inr (3, [.int (iI 0), .null, .null]))) : gM lc dA yX3_init (.code yX3_init cX3_init 1 none) { frames := 1, cells := 8, slots := 48, locals := 40 } σ0 [.ref a] (fun v σ9 => v = none ∧ ∃ q1 q2, hld σ0 [(a, .inr (3, [.int (iI 0), .ref q1, .ref q2])), (q1, .inl (dA 0, 6, .inl (fun _ => iI 0))), (q2, .inl (dA 6, 6, .inr (.inr (.inr (.inr (fun i => if i < 6 then some (q2 + 1 + i) else none)))))), (q2 + 1, .inl (dA 0, 6, .inl (fun _ => iI 0))), (q2 + 2, .inl (dA 0, 6, .inl (fun _ => iI 0))), (q2 + 3, .inl (dA 0, 6, .inl (fun _ => iI 0))), (q2 + 4, .inl (dA 0, 6, .inl (fun _ => iI 0))), (q2 + 5, .inl (dA 0, 6, .inl (fun _ => iI 0))), (q2 + 6, .inl (dA 0, 6, .inl (fun _ => iI 0)))] σ9) nX := by
  refine gM_bodyI (by decide +kernel) rfl (by simp [Value.category]) (Nat.le_of_ble_eq_true rfl) (fun Γ hdA cx ix rx nx => ?_)
  subst hdA
  have cx : CX lc Γ cX3_init RX3 1 { frames := 1, cells := 8, slots := 48, locals := 40 } := cx
  show G Γ σ0 0 0 0 [some (.ref a)] []
  have hd := hld.one h0
  refine z_al_1_0 (pc := 0) cx dX3_init_0 ?_
  refine g_objInit (pc := 1) cx (TB_at 32 (by decide +kernel) (by decide +kernel)) (TB_at 23 (by decide +kernel) (by decide +kernel)) (TB_at 24 (by decide +kernel) (by decide +kernel)) rfl (by decide) (by decide) dX3_init_1 ?_
  refine z_al_1_0 (pc := 4) cx dX3_init_4 ?_
  refine z_bipush (pc := 5) cx rfl dX3_init_5 ?_
  refine i_newa (pc := 7) (atype := .int) (ty := .int) (t := 0) (N := 6) (a0 := (6, .inl (fun _ => iI 0))) cx hd (Nat.zero_lt_succ _) rfl (TB_at 46 (by decide +kernel) (by decide +kernel)) rfl (nw_int 6) (by decide) rfl (by decide) (by decide) (by decide) dX3_init_7 (fun q1 σ hd => ?_)
  have hd : hld σ0 [(a, .inr (3, [.int (iI 0), .null, .null])), (q1, .inl (gdA Γ 0, 6, .inl (fun _ => iI 0)))] σ := hd
  refine i_putF (pc := 9) cx ix hd (i := 0) rfl ⟨_, rfl, rfl⟩ fl_X3_9 rfl (show (1 : Nat) < 3 by decide) rfl rfl dX3_init_9 (fun σ hd => ?_)
  have hd : hld σ0 [(a, .inr (3, [.int (iI 0), .ref q1, .null])), (q1, .inl (gdA Γ 0, 6, .inl (fun _ => iI 0)))] σ := hd
  refine z_al_1_0 (pc := 12) cx dX3_init_12 ?_
  refine z_bipush (pc := 13) cx rfl dX3_init_13 ?_
  refine z_bipush (pc := 15) cx rfl dX3_init_15 ?_
  refine i_mna66 (pc := 17) cx hd (Nat.zero_lt_succ _) (TB_at 33 (by decide +kernel) (by decide +kernel)) (TB_at 46 (by decide +kernel) (by decide +kernel)) (by decide) (by decide) dX3_init_17 (fun q2 σ hd => ?_)
  have hd : hld σ0 [(a, .inr (3, [.int (iI 0), .ref q1, .null])), (q1, .inl (gdA Γ 0, 6, .inl (fun _ => iI 0))), (q2, .inl (gdA Γ 6, 6, .inr (.inr (.inr (.inr (fun i => if i < 6 then some (q2 + 1 + i) else none)))))), (q2 + 1, .inl (gdA Γ 0, 6, .inl (fun _ => iI 0))), (q2 + 2, .inl (gdA Γ 0, 6, .inl (fun _ => iI 0))), (q2 + 3, .inl (gdA Γ 0, 6, .inl (fun _ => iI 0))), (q2 + 4, .inl (gdA Γ 0, 6, .inl (fun _ => iI 0))), (q2 + 5, .inl (gdA Γ 0, 6, .inl (fun _ => iI 0))), (q2 + 6, .inl (gdA Γ 0, 6, .inl (fun _ => iI 0)))] σ := hd
  refine i_putF (pc := 21) cx ix hd (i := 0) rfl ⟨_, rfl, rfl⟩ fl_X3_17 rfl (show (2 : Nat) < 3 by decide) rfl rfl dX3_init_21 (fun σ hd => ?_)
  have hd : hld σ0 [(a, .inr (3, [.int (iI 0), .ref q1, .ref q2])), (q1, .inl (gdA Γ 0, 6, .inl (fun _ => iI 0))), (q2, .inl (gdA Γ 6, 6, .inr (.inr (.inr (.inr (fun i => if i < 6 then some (q2 + 1 + i) else none)))))), (q2 + 1, .inl (gdA Γ 0, 6, .inl (fun _ => iI 0))), (q2 + 2, .inl (gdA Γ 0, 6, .inl (fun _ => iI 0))), (q2 + 3, .inl (gdA Γ 0, 6, .inl (fun _ => iI 0))), (q2 + 4, .inl (gdA Γ 0, 6, .inl (fun _ => iI 0))), (q2 + 5, .inl (gdA Γ 0, 6, .inl (fun _ => iI 0))), (q2 + 6, .inl (gdA Γ 0, 6, .inl (fun _ => iI 0)))] σ := hd
  exact g_return (pc := 24) cx rx (by decide) (by decide) dX3_init_24 ⟨rfl, q1, q2, hd⟩
