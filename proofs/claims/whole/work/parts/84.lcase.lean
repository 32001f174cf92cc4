/-! the law's cases (written by program) -/
def LI (dA : Nat → ClassId) (cd ad : Nat → Nat) (h o : Nat) (σ : hS) (tm : Int) : Prop := ∃ (σ1 σ2 : hS) (f : Nat → Int64) (S : mS), σ = uni (uni σ1 (one o (lo dA f))) σ2 ∧ σ1 o = none ∧ dis (uni σ1 (one o (lo dA f))) σ2 ∧ WS dA cd σ1 S tm ∧ mat dA ad σ2 h S
theorem tick_0 {C S : mS} {n4 na n k : Int} {Q4 Qa Q : Nat → mS} (hm : SM C S n4 Q4 na Qa n Q) (ht : S 15 0 + 200 ≤ 999000) : tickS S k 0 0 = thT k := by
  unfold tickS
  split
  · rename_i q
    have hr : 1 ≤ k ∧ k ≤ 200 := by unfold thT at q; split at q <;> omega
    have g := (ts_ticks k.toNat (SM_0 hm (thT k)).1 (by rw [mw_k (by decide)]; omega)).2.2.1
    rw [g.1 0 (by decide), mw_s]
  · exact mw_s
theorem lg_00 : lg_cmp (iI 0).toInt64 0 = iI 0 := by decide +kernel
theorem lg_11 : lg_cmp (iI 1).toInt64 1 = iI 0 := by decide +kernel
set_option maxRecDepth 100000 in
set_option maxHeartbeats 4000000 in
theorem lc_delay {lc : Launch} {Γ : gC} {cd ad : Nat → Nat} {b L x h o j K N : Nat} {xs : Nat → Int32} {σ : hS} {tm : Int} {v5 v6 : Option Value} (cx : CX lc Γ cL_law RL 7 room_1) (hX : LXt Γ b L xs) (hL : L ≤ 3584) (hst : lc.stackTraces = false) (hx : x = cd 0) (hj : 7 * j + 7 ≤ L) (htm : tm ≤ 900000) (hK : K + 30 ≤ 807546) (hN : N + 120 ≤ 6673467) (hw : LI (gdA Γ) cd ad h o σ tm) (hk : ∀ σ2 u5 u6, LI (gdA Γ) cd ad h o σ2 (tm + 200) → G Γ σ2 (K + 30) (N + 120) 1060 [some (.ref b), some (.ref x), some (.ref h), some (.ref o), some (.int (iI (7 * (j : Int)))), u5, u6] []) : G Γ σ K N 120 [some (.ref b), some (.ref x), some (.ref h), some (.ref o), some (.int (iI (7 * (j : Int)))), v5, v6] [] := by
  obtain ⟨σ1, σ2, f, S, rfl, ho, hd, hws, hm⟩ := hw
  obtain ⟨C, R, n4, Q4, na, Qa, n, Q, -, hsm, -, hfr, -, -, hle⟩ := id hws
  have hFW : FW S := (w_facts hsm hfr (by omega)).2.2.2.2.2
  have hs0 := hsm.2.1
  have hs2 := hsm.1.2.1
  have hrg := hsm.1.2.2.2.2.1
  have hpr := hsm.1.2.2.2.2.2.1
  refine g_aload_n (pc := 120) (q := 1) (i := 1) cx rfl rfl dL_law_120 ?_
  refine g_aload_n (pc := 121) (q := 0) (i := 0) cx rfl rfl dL_law_121 ?_
  refine g_iload (pc := 122) (i := 4) cx rfl dL_law_122 ?_
  refine z_iconst (pc := 124) cx dL_law_124 ?_
  refine z_iadd (pc := 125) cx dL_law_125 ?_
  refine g_scr (pc := 126) cx hX hL (by omega) dL_law_126 ?_
  refine g_aload_n (pc := 127) (q := 0) (i := 0) cx rfl rfl dL_law_127 ?_
  refine g_iload (pc := 128) (i := 4) cx rfl dL_law_128 ?_
  refine z_iconst (pc := 130) cx dL_law_130 ?_
  refine z_iadd (pc := 131) cx dL_law_131 ?_
  refine g_scr (pc := 132) cx hX hL (by omega) dL_law_132 ?_
  refine g_callSX (pc := 133) (As := [.ref x, .int (iI (xs (7 * (j : Int) + 1).toNat).toInt), .int (iI (xs (7 * (j : Int) + 2).toNat).toInt)]) (rest := []) cx lk_L_70 (gM_fr (w_delay hst hx hws ho (t32 _) (t32 _)) hd) gy_L_delay ⟨⟨by decide, by decide⟩, by show K + 2 ≤ 807546; omega, by show N + 12 ≤ 6673467; omega⟩ rfl (Nat.le_of_ble_eq_true rfl) rfl dL_law_133 (fun E σ9 hX9 => ?_) (fun v9 σ9 hX9 => ?_)
  · obtain ⟨_, h9, _⟩ := hX9; exact h9.elim
  obtain ⟨σa, ⟨rfl, σb, f1, rfl, ho1, hw1, hf1⟩, rfl, hd1⟩ := hX9
  have h00 : 0 ≤ (delS S (xs (7 * (j : Int) + 1).toNat).toInt (xs (7 * (j : Int) + 2).toNat).toInt) 0 0 ∧ (delS S (xs (7 * (j : Int) + 1).toNat).toInt (xs (7 * (j : Int) + 2).toNat).toInt) 0 0 ≤ 3 := by
    rw [r_del.1]
    unfold thD
    (repeat' split) <;> omega
  show G Γ _ (K + 2) (N + 12) 136 _ (.int (iI _) :: _)
  rw [uni_comm hd1]
  refine g_istore (pc := 136) (i := 5) cx (by simp) dL_law_136 ?_
  show G Γ _ _ _ 138 [some (.ref b), some (.ref x), some (.ref h), some (.ref o), some (.int (iI (7 * (j : Int)))), some (.int (iI _)), v6] []
  refine g_aload_n (pc := 138) (q := 2) (i := 2) cx rfl rfl dL_law_138 ?_
  refine g_aload_n (pc := 139) (q := 0) (i := 0) cx rfl rfl dL_law_139 ?_
  refine g_iload (pc := 140) (i := 4) cx rfl dL_law_140 ?_
  refine z_iconst (pc := 142) cx dL_law_142 ?_
  refine z_iadd (pc := 143) cx dL_law_143 ?_
  refine g_scr (pc := 144) cx hX hL (by omega) dL_law_144 ?_
  refine g_aload_n (pc := 145) (q := 0) (i := 0) cx rfl rfl dL_law_145 ?_
  refine g_iload (pc := 146) (i := 4) cx rfl dL_law_146 ?_
  refine z_iconst (pc := 148) cx dL_law_148 ?_
  refine z_iadd (pc := 149) cx dL_law_149 ?_
  refine g_scr (pc := 150) cx hX hL (by omega) dL_law_150 ?_
  refine g_callV (pc := 151) (As := [.int (iI (xs (7 * (j : Int) + 1).toNat).toInt), .int (iI (xs (7 * (j : Int) + 2).toNat).toInt)]) (rest := []) cx lk_L_75 (gM_fr (c_X7_delay hm (t32 _) (t32 _)) hd1.symm) (uni_l hm.1) rfl gy_X7_delay ⟨⟨by decide, by decide⟩, by show K + 2 + 0 ≤ 807546; omega, by show N + 12 + 0 ≤ 6673467; omega⟩ rfl (Nat.le_of_ble_eq_true rfl) rfl dL_law_151 (fun E σ9 hX9 => ?_) (fun v9 σ9 hX9 => ?_)
  · obtain ⟨_, h9, _⟩ := hX9; exact h9.elim
  obtain ⟨σ2a, ⟨rfl, hm1, _⟩, rfl, hd2⟩ := hX9
  show G Γ _ (K + 2) (N + 12) 154 _ _
  refine g_aload_n (pc := 154) (q := 2) (i := 2) cx rfl rfl dL_law_154 ?_
  refine g_callV (pc := 155) (As := []) (rest := []) cx lk_L_76 (gM_fr (c_X7_thrown hm1) hd2) (uni_l hm1.1) rfl gy_X7_thrown ⟨⟨by decide, by decide⟩, by show K + 2 + 0 ≤ 807546; omega, by show N + 12 + 0 ≤ 6673467; omega⟩ rfl (Nat.le_of_ble_eq_true rfl) rfl dL_law_155 (fun E σ9 hX9 => ?_) (fun v9 σ9 hX9 => ?_)
  · obtain ⟨_, h9, _⟩ := hX9; exact h9.elim
  obtain ⟨σ2b, ⟨rfl, hm2, _⟩, rfl, hd3⟩ := hX9
  show G Γ _ (K + 2) (N + 12) 158 _ (.int (iI _) :: _)
  refine g_iload (pc := 158) (i := 5) cx rfl dL_law_158 ?_
  refine z_icmp_eq (pc := 160) (tgt := 165) cx ⟨by omega, by omega⟩ (by decide) dL_law_160 (fun _ => ?_) (fun c9 => absurd rfl c9)
  refine g_goto (pc := 165) (tgt := 1060) cx (by decide) dL_law_165 ?_
  refine g_widen (k := K + 30) (n := N + 120) (by omega) (by omega) ?_
  exact hk _ _ _ ⟨σb, σ2b, f1, _, uni_comm hd3, ho1, hd3.symm, hw1, hm2⟩
set_option maxRecDepth 100000 in
set_option maxHeartbeats 4000000 in
theorem lc_stream {lc : Launch} {Γ : gC} {cd ad : Nat → Nat} {b L x h o j K N : Nat} {xs : Nat → Int32} {σ : hS} {tm : Int} {v5 v6 : Option Value} (cx : CX lc Γ cL_law RL 7 room_1) (hX : LXt Γ b L xs) (hL : L ≤ 3584) (hst : lc.stackTraces = false) (hx : x = cd 0) (hj : 7 * j + 7 ≤ L) (htm : tm ≤ 900000) (hK : K + 30 ≤ 807546) (hN : N + 120 ≤ 6673467) (hw : LI (gdA Γ) cd ad h o σ tm) (hk : ∀ σ2 u5 u6, LI (gdA Γ) cd ad h o σ2 (tm + 200) → G Γ σ2 (K + 30) (N + 120) 1060 [some (.ref b), some (.ref x), some (.ref h), some (.ref o), some (.int (iI (7 * (j : Int)))), u5, u6] []) : G Γ σ K N 168 [some (.ref b), some (.ref x), some (.ref h), some (.ref o), some (.int (iI (7 * (j : Int)))), v5, v6] [] := by
  obtain ⟨σ1, σ2, f, S, rfl, ho, hd, hws, hm⟩ := hw
  obtain ⟨C, R, n4, Q4, na, Qa, n, Q, -, hsm, -, hfr, -, -, hle⟩ := id hws
  have hFW : FW S := (w_facts hsm hfr (by omega)).2.2.2.2.2
  have hs0 := hsm.2.1
  have hs2 := hsm.1.2.1
  have hrg := hsm.1.2.2.2.2.1
  have hpr := hsm.1.2.2.2.2.2.1
  refine g_aload_n (pc := 168) (q := 1) (i := 1) cx rfl rfl dL_law_168 ?_
  refine g_aload_n (pc := 169) (q := 0) (i := 0) cx rfl rfl dL_law_169 ?_
  refine g_iload (pc := 170) (i := 4) cx rfl dL_law_170 ?_
  refine z_iconst (pc := 172) cx dL_law_172 ?_
  refine z_iadd (pc := 173) cx dL_law_173 ?_
  refine g_scr (pc := 174) cx hX hL (by omega) dL_law_174 ?_
  refine g_aload_n (pc := 175) (q := 0) (i := 0) cx rfl rfl dL_law_175 ?_
  refine g_iload (pc := 176) (i := 4) cx rfl dL_law_176 ?_
  refine z_iconst (pc := 178) cx dL_law_178 ?_
  refine z_iadd (pc := 179) cx dL_law_179 ?_
  refine g_scr (pc := 180) cx hX hL (by omega) dL_law_180 ?_
  refine g_aload_n (pc := 181) (q := 0) (i := 0) cx rfl rfl dL_law_181 ?_
  refine g_iload (pc := 182) (i := 4) cx rfl dL_law_182 ?_
  refine z_iconst (pc := 184) cx dL_law_184 ?_
  refine z_iadd (pc := 185) cx dL_law_185 ?_
  refine g_scr (pc := 186) cx hX hL (by omega) dL_law_186 ?_
  refine g_aload_n (pc := 187) (q := 0) (i := 0) cx rfl rfl dL_law_187 ?_
  refine g_iload (pc := 188) (i := 4) cx rfl dL_law_188 ?_
  refine z_iconst (pc := 190) cx dL_law_190 ?_
  refine z_iadd (pc := 191) cx dL_law_191 ?_
  refine g_scr (pc := 192) cx hX hL (by omega) dL_law_192 ?_
  refine g_aload_n (pc := 193) (q := 0) (i := 0) cx rfl rfl dL_law_193 ?_
  refine g_iload (pc := 194) (i := 4) cx rfl dL_law_194 ?_
  refine z_iconst (pc := 196) cx dL_law_196 ?_
  refine z_iadd (pc := 197) cx dL_law_197 ?_
  refine g_scr (pc := 198) cx hX hL (by omega) dL_law_198 ?_
  refine g_aload_n (pc := 199) (q := 0) (i := 0) cx rfl rfl dL_law_199 ?_
  refine g_iload (pc := 200) (i := 4) cx rfl dL_law_200 ?_
  refine z_bipush (pc := 202) cx rfl dL_law_202 ?_
  refine z_iadd (pc := 204) cx dL_law_204 ?_
  refine g_scr (pc := 205) cx hX hL (by omega) dL_law_205 ?_
  refine g_aload_n (pc := 206) (q := 3) (i := 3) cx rfl rfl dL_law_206 ?_
  refine g_callSX (pc := 207) (As := [.ref x, .int (iI (xs (7 * (j : Int) + 1).toNat).toInt), .int (iI (xs (7 * (j : Int) + 2).toNat).toInt), .int (iI (xs (7 * (j : Int) + 3).toNat).toInt), .int (iI (xs (7 * (j : Int) + 4).toNat).toInt), .int (iI (xs (7 * (j : Int) + 5).toNat).toInt), .int (iI (xs (7 * (j : Int) + 6).toNat).toInt), .ref o]) (rest := []) cx lk_L_80 (gM_fr (w_stream hst hx hws ho ⟨t32 _, t32 _, t32 _, t32 _, t32 _, t32 _⟩) hd) gy_L_stream ⟨⟨by decide, by decide⟩, by show K + 6 ≤ 807546; omega, by show N + 30 ≤ 6673467; omega⟩ rfl (Nat.le_of_ble_eq_true rfl) rfl dL_law_207 (fun E σ9 hX9 => ?_) (fun v9 σ9 hX9 => ?_)
  · obtain ⟨_, h9, _⟩ := hX9; exact h9.elim
  obtain ⟨σa, ⟨rfl, σb, f1, rfl, ho1, hw1, hf1⟩, rfl, hd1⟩ := hX9
  have h00 : 0 ≤ (strS S (xs (7 * (j : Int) + 1).toNat).toInt (xs (7 * (j : Int) + 2).toNat).toInt (xs (7 * (j : Int) + 3).toNat).toInt (xs (7 * (j : Int) + 4).toNat).toInt (xs (7 * (j : Int) + 5).toNat).toInt (xs (7 * (j : Int) + 6).toNat).toInt) 0 0 ∧ (strS S (xs (7 * (j : Int) + 1).toNat).toInt (xs (7 * (j : Int) + 2).toNat).toInt (xs (7 * (j : Int) + 3).toNat).toInt (xs (7 * (j : Int) + 4).toNat).toInt (xs (7 * (j : Int) + 5).toNat).toInt (xs (7 * (j : Int) + 6).toNat).toInt) 0 0 ≤ 3 := by
    rw [str_0]
    unfold thSm
    (repeat' split) <;> omega
  show G Γ _ (K + 6) (N + 30) 210 _ (.int (iI _) :: _)
  rw [uni_comm hd1]
  refine g_istore (pc := 210) (i := 5) cx (by simp) dL_law_210 ?_
  show G Γ _ _ _ 212 [some (.ref b), some (.ref x), some (.ref h), some (.ref o), some (.int (iI (7 * (j : Int)))), some (.int (iI _)), v6] []
  refine g_aload_n (pc := 212) (q := 2) (i := 2) cx rfl rfl dL_law_212 ?_
  refine g_aload_n (pc := 213) (q := 0) (i := 0) cx rfl rfl dL_law_213 ?_
  refine g_iload (pc := 214) (i := 4) cx rfl dL_law_214 ?_
  refine z_iconst (pc := 216) cx dL_law_216 ?_
  refine z_iadd (pc := 217) cx dL_law_217 ?_
  refine g_scr (pc := 218) cx hX hL (by omega) dL_law_218 ?_
  refine g_aload_n (pc := 219) (q := 0) (i := 0) cx rfl rfl dL_law_219 ?_
  refine g_iload (pc := 220) (i := 4) cx rfl dL_law_220 ?_
  refine z_iconst (pc := 222) cx dL_law_222 ?_
  refine z_iadd (pc := 223) cx dL_law_223 ?_
  refine g_scr (pc := 224) cx hX hL (by omega) dL_law_224 ?_
  refine g_aload_n (pc := 225) (q := 0) (i := 0) cx rfl rfl dL_law_225 ?_
  refine g_iload (pc := 226) (i := 4) cx rfl dL_law_226 ?_
  refine z_iconst (pc := 228) cx dL_law_228 ?_
  refine z_iadd (pc := 229) cx dL_law_229 ?_
  refine g_scr (pc := 230) cx hX hL (by omega) dL_law_230 ?_
  refine g_aload_n (pc := 231) (q := 0) (i := 0) cx rfl rfl dL_law_231 ?_
  refine g_iload (pc := 232) (i := 4) cx rfl dL_law_232 ?_
  refine z_iconst (pc := 234) cx dL_law_234 ?_
  refine z_iadd (pc := 235) cx dL_law_235 ?_
  refine g_scr (pc := 236) cx hX hL (by omega) dL_law_236 ?_
  refine g_aload_n (pc := 237) (q := 0) (i := 0) cx rfl rfl dL_law_237 ?_
  refine g_iload (pc := 238) (i := 4) cx rfl dL_law_238 ?_
  refine z_iconst (pc := 240) cx dL_law_240 ?_
  refine z_iadd (pc := 241) cx dL_law_241 ?_
  refine g_scr (pc := 242) cx hX hL (by omega) dL_law_242 ?_
  refine g_aload_n (pc := 243) (q := 0) (i := 0) cx rfl rfl dL_law_243 ?_
  refine g_iload (pc := 244) (i := 4) cx rfl dL_law_244 ?_
  refine z_bipush (pc := 246) cx rfl dL_law_246 ?_
  refine z_iadd (pc := 248) cx dL_law_248 ?_
  refine g_scr (pc := 249) cx hX hL (by omega) dL_law_249 ?_
  refine g_callV (pc := 250) (As := [.int (iI (xs (7 * (j : Int) + 1).toNat).toInt), .int (iI (xs (7 * (j : Int) + 2).toNat).toInt), .int (iI (xs (7 * (j : Int) + 3).toNat).toInt), .int (iI (xs (7 * (j : Int) + 4).toNat).toInt), .int (iI (xs (7 * (j : Int) + 5).toNat).toInt), .int (iI (xs (7 * (j : Int) + 6).toNat).toInt)]) (rest := []) cx lk_L_83 (gM_fr (c_X7_stream hm ⟨t32 _, t32 _, t32 _, t32 _, t32 _, t32 _⟩ hsm.2.2.2.1.2) hd1.symm) (uni_l hm.1) rfl gy_X7_stream ⟨⟨by decide, by decide⟩, by show K + 6 + 0 ≤ 807546; omega, by show N + 30 + 0 ≤ 6673467; omega⟩ rfl (Nat.le_of_ble_eq_true rfl) rfl dL_law_250 (fun E σ9 hX9 => ?_) (fun v9 σ9 hX9 => ?_)
  · obtain ⟨_, h9, _⟩ := hX9; exact h9.elim
  obtain ⟨σ2a, ⟨rfl, hm1, _⟩, rfl, hd2⟩ := hX9
  show G Γ _ (K + 6) (N + 30) 253 _ (.int (iI _) :: _)
  refine g_istore (pc := 253) (i := 6) cx (by simp) dL_law_253 ?_
  show G Γ _ _ _ 255 [some (.ref b), some (.ref x), some (.ref h), some (.ref o), some (.int (iI (7 * (j : Int)))), some (.int (iI _)), some (.int (iI _))] []
  refine g_aload_n (pc := 255) (q := 2) (i := 2) cx rfl rfl dL_law_255 ?_
  refine g_callV (pc := 256) (As := []) (rest := []) cx lk_L_76 (gM_fr (c_X7_thrown hm1) hd2) (uni_l hm1.1) rfl gy_X7_thrown ⟨⟨by decide, by decide⟩, by show K + 6 + 0 ≤ 807546; omega, by show N + 30 + 0 ≤ 6673467; omega⟩ rfl (Nat.le_of_ble_eq_true rfl) rfl dL_law_256 (fun E σ9 hX9 => ?_) (fun v9 σ9 hX9 => ?_)
  · obtain ⟨_, h9, _⟩ := hX9; exact h9.elim
  obtain ⟨σ2b, ⟨rfl, hm2, _⟩, rfl, hd3⟩ := hX9
  show G Γ _ (K + 6) (N + 30) 259 _ (.int (iI _) :: _)
  refine g_iload (pc := 259) (i := 5) cx rfl dL_law_259 ?_
  refine z_icmp_eq (pc := 261) (tgt := 266) cx ⟨by omega, by omega⟩ (by decide) dL_law_261 (fun _ => ?_) (fun c9 => absurd rfl c9)
  refine g_iload (pc := 266) (i := 5) cx rfl dL_law_266 ?_
  refine z_if_ne (pc := 268) (tgt := 283) cx (by omega) (by decide) dL_law_268 (fun cz => ?_) (fun cz => ?_)
  · skip
    refine g_goto (pc := 283) (tgt := 1060) cx (by decide) dL_law_283 ?_
    refine g_widen (k := K + 30) (n := N + 120) (by omega) (by omega) ?_
    exact hk _ _ _ ⟨σb, σ2b, f1, _, uni_comm hd3, ho1, hd3.symm, hw1, hm2⟩
  · skip
    refine g_aload_n (pc := 271) (q := 3) (i := 3) cx rfl rfl dL_law_271 ?_
    refine z_iconst (pc := 272) cx dL_law_272 ?_
    refine g_lald (pc := 273) (N := 1) (f := f1) cx (uni_r hd3 (by rw [uni_n ho1, one_s])) (iI_in (by decide) (by decide)) dL_law_273 ?_
    rw [show f1 (iI 0).toNatClampNeg = f1 0 by rw [iI_cl (by decide)]; rfl, hf1 cz]
    refine g_iload (pc := 274) (i := 6) cx rfl dL_law_274 ?_
    refine g_i2l (pc := 276) cx dL_law_276 ?_
    refine g_lcmp (pc := 277) cx dL_law_277 ?_
    rw [lg_self]
    refine z_if_eq (pc := 278) (tgt := 283) cx (by decide) (by decide) dL_law_278 (fun _ => ?_) (fun c9 => absurd rfl c9)
    refine g_goto (pc := 283) (tgt := 1060) cx (by decide) dL_law_283 ?_
    refine g_widen (k := K + 30) (n := N + 120) (by omega) (by omega) ?_
    exact hk _ _ _ ⟨σb, σ2b, f1, _, uni_comm hd3, ho1, hd3.symm, hw1, hm2⟩
set_option maxRecDepth 100000 in
set_option maxHeartbeats 4000000 in
theorem lc_build {lc : Launch} {Γ : gC} {cd ad : Nat → Nat} {b L x h o j K N : Nat} {xs : Nat → Int32} {σ : hS} {tm : Int} {v5 v6 : Option Value} (cx : CX lc Γ cL_law RL 7 room_1) (hX : LXt Γ b L xs) (hL : L ≤ 3584) (hst : lc.stackTraces = false) (hx : x = cd 0) (hj : 7 * j + 7 ≤ L) (htm : tm ≤ 900000) (hK : K + 30 ≤ 807546) (hN : N + 120 ≤ 6673467) (hw : LI (gdA Γ) cd ad h o σ tm) (hk : ∀ σ2 u5 u6, LI (gdA Γ) cd ad h o σ2 (tm + 200) → G Γ σ2 (K + 30) (N + 120) 1060 [some (.ref b), some (.ref x), some (.ref h), some (.ref o), some (.int (iI (7 * (j : Int)))), u5, u6] []) : G Γ σ K N 297 [some (.ref b), some (.ref x), some (.ref h), some (.ref o), some (.int (iI (7 * (j : Int)))), v5, v6] [] := by
  obtain ⟨σ1, σ2, f, S, rfl, ho, hd, hws, hm⟩ := hw
  obtain ⟨C, R, n4, Q4, na, Qa, n, Q, -, hsm, -, hfr, -, -, hle⟩ := id hws
  have hFW : FW S := (w_facts hsm hfr (by omega)).2.2.2.2.2
  have hs0 := hsm.2.1
  have hs2 := hsm.1.2.1
  have hrg := hsm.1.2.2.2.2.1
  have hpr := hsm.1.2.2.2.2.2.1
  refine g_aload_n (pc := 297) (q := 1) (i := 1) cx rfl rfl dL_law_297 ?_
  refine g_aload_n (pc := 298) (q := 0) (i := 0) cx rfl rfl dL_law_298 ?_
  refine g_iload (pc := 299) (i := 4) cx rfl dL_law_299 ?_
  refine z_iconst (pc := 301) cx dL_law_301 ?_
  refine z_iadd (pc := 302) cx dL_law_302 ?_
  refine g_scr (pc := 303) cx hX hL (by omega) dL_law_303 ?_
  refine g_aload_n (pc := 304) (q := 3) (i := 3) cx rfl rfl dL_law_304 ?_
  refine g_callSX (pc := 305) (As := [.ref x, .int (iI (xs (7 * (j : Int) + 1).toNat).toInt), .ref o]) (rest := []) cx lk_L_88 (gM_fr (w_build hst hx hws ho (t32 _)) hd) gy_L_build ⟨⟨by decide, by decide⟩, by show K + 22 ≤ 807546; omega, by show N + 96 ≤ 6673467; omega⟩ rfl (Nat.le_of_ble_eq_true rfl) rfl dL_law_305 (fun E σ9 hX9 => ?_) (fun v9 σ9 hX9 => ?_)
  · obtain ⟨_, h9, _⟩ := hX9; exact h9.elim
  obtain ⟨σa, ⟨rfl, σb, f1, rfl, ho1, hw1, hf1⟩, rfl, hd1⟩ := hX9
  have h00 : 0 ≤ (bldS S (xs (7 * (j : Int) + 1).toNat).toInt) 0 0 ∧ (bldS S (xs (7 * (j : Int) + 1).toNat).toInt) 0 0 ≤ 3 := by
    rw [bld_0]
    unfold thBd
    (repeat' split) <;> omega
  show G Γ _ (K + 22) (N + 96) 308 _ (.int (iI _) :: _)
  rw [uni_comm hd1]
  refine g_istore (pc := 308) (i := 5) cx (by simp) dL_law_308 ?_
  show G Γ _ _ _ 310 [some (.ref b), some (.ref x), some (.ref h), some (.ref o), some (.int (iI (7 * (j : Int)))), some (.int (iI _)), v6] []
  refine g_aload_n (pc := 310) (q := 2) (i := 2) cx rfl rfl dL_law_310 ?_
  refine g_aload_n (pc := 311) (q := 0) (i := 0) cx rfl rfl dL_law_311 ?_
  refine g_iload (pc := 312) (i := 4) cx rfl dL_law_312 ?_
  refine z_iconst (pc := 314) cx dL_law_314 ?_
  refine z_iadd (pc := 315) cx dL_law_315 ?_
  refine g_scr (pc := 316) cx hX hL (by omega) dL_law_316 ?_
  refine g_callV (pc := 317) (As := [.int (iI (xs (7 * (j : Int) + 1).toNat).toInt)]) (rest := []) cx lk_L_91 (gM_fr (c_X7_build hm (t32 _) hsm.2.2.2.1.2 (fun i a b => (hsm.2.2.2.2.2 i a b).1) (fun l a b => ⟨(hsm.2.2.1 l a b).2.1, (hsm.2.2.1 l a b).2.2.1⟩)) hd1.symm) (uni_l hm.1) rfl gy_X7_build ⟨⟨by decide, by decide⟩, by show K + 22 + 0 ≤ 807546; omega, by show N + 96 + 0 ≤ 6673467; omega⟩ rfl (Nat.le_of_ble_eq_true rfl) rfl dL_law_317 (fun E σ9 hX9 => ?_) (fun v9 σ9 hX9 => ?_)
  · obtain ⟨_, h9, _⟩ := hX9; exact h9.elim
  obtain ⟨σ2a, ⟨rfl, hm1, _⟩, rfl, hd2⟩ := hX9
  show G Γ _ (K + 22) (N + 96) 320 _ (.int (iI _) :: _)
  refine g_istore (pc := 320) (i := 6) cx (by simp) dL_law_320 ?_
  show G Γ _ _ _ 322 [some (.ref b), some (.ref x), some (.ref h), some (.ref o), some (.int (iI (7 * (j : Int)))), some (.int (iI _)), some (.int (iI _))] []
  refine g_aload_n (pc := 322) (q := 2) (i := 2) cx rfl rfl dL_law_322 ?_
  refine g_callV (pc := 323) (As := []) (rest := []) cx lk_L_76 (gM_fr (c_X7_thrown hm1) hd2) (uni_l hm1.1) rfl gy_X7_thrown ⟨⟨by decide, by decide⟩, by show K + 22 + 0 ≤ 807546; omega, by show N + 96 + 0 ≤ 6673467; omega⟩ rfl (Nat.le_of_ble_eq_true rfl) rfl dL_law_323 (fun E σ9 hX9 => ?_) (fun v9 σ9 hX9 => ?_)
  · obtain ⟨_, h9, _⟩ := hX9; exact h9.elim
  obtain ⟨σ2b, ⟨rfl, hm2, _⟩, rfl, hd3⟩ := hX9
  show G Γ _ (K + 22) (N + 96) 326 _ (.int (iI _) :: _)
  refine g_iload (pc := 326) (i := 5) cx rfl dL_law_326 ?_
  refine z_icmp_eq (pc := 328) (tgt := 333) cx ⟨by omega, by omega⟩ (by decide) dL_law_328 (fun _ => ?_) (fun c9 => absurd rfl c9)
  refine g_iload (pc := 333) (i := 5) cx rfl dL_law_333 ?_
  refine z_if_ne (pc := 335) (tgt := 350) cx (by omega) (by decide) dL_law_335 (fun cz => ?_) (fun cz => ?_)
  · skip
    refine g_goto (pc := 350) (tgt := 1060) cx (by decide) dL_law_350 ?_
    refine g_widen (k := K + 30) (n := N + 120) (by omega) (by omega) ?_
    exact hk _ _ _ ⟨σb, σ2b, f1, _, uni_comm hd3, ho1, hd3.symm, hw1, hm2⟩
  · skip
    refine g_aload_n (pc := 338) (q := 3) (i := 3) cx rfl rfl dL_law_338 ?_
    refine z_iconst (pc := 339) cx dL_law_339 ?_
    refine g_lald (pc := 340) (N := 1) (f := f1) cx (uni_r hd3 (by rw [uni_n ho1, one_s])) (iI_in (by decide) (by decide)) dL_law_340 ?_
    rw [show f1 (iI 0).toNatClampNeg = f1 0 by rw [iI_cl (by decide)]; rfl, hf1 cz]
    refine g_iload (pc := 341) (i := 6) cx rfl dL_law_341 ?_
    refine g_i2l (pc := 343) cx dL_law_343 ?_
    refine g_lcmp (pc := 344) cx dL_law_344 ?_
    rw [lg_self]
    refine z_if_eq (pc := 345) (tgt := 350) cx (by decide) (by decide) dL_law_345 (fun _ => ?_) (fun c9 => absurd rfl c9)
    refine g_goto (pc := 350) (tgt := 1060) cx (by decide) dL_law_350 ?_
    refine g_widen (k := K + 30) (n := N + 120) (by omega) (by omega) ?_
    exact hk _ _ _ ⟨σb, σ2b, f1, _, uni_comm hd3, ho1, hd3.symm, hw1, hm2⟩
set_option maxRecDepth 100000 in
set_option maxHeartbeats 4000000 in
theorem lc_offset {lc : Launch} {Γ : gC} {cd ad : Nat → Nat} {b L x h o j K N : Nat} {xs : Nat → Int32} {σ : hS} {tm : Int} {v5 v6 : Option Value} (cx : CX lc Γ cL_law RL 7 room_1) (hX : LXt Γ b L xs) (hL : L ≤ 3584) (hst : lc.stackTraces = false) (hx : x = cd 0) (hj : 7 * j + 7 ≤ L) (htm : tm ≤ 900000) (hK : K + 30 ≤ 807546) (hN : N + 120 ≤ 6673467) (hw : LI (gdA Γ) cd ad h o σ tm) (hk : ∀ σ2 u5 u6, LI (gdA Γ) cd ad h o σ2 (tm + 200) → G Γ σ2 (K + 30) (N + 120) 1060 [some (.ref b), some (.ref x), some (.ref h), some (.ref o), some (.int (iI (7 * (j : Int)))), u5, u6] []) : G Γ σ K N 366 [some (.ref b), some (.ref x), some (.ref h), some (.ref o), some (.int (iI (7 * (j : Int)))), v5, v6] [] := by
  obtain ⟨σ1, σ2, f, S, rfl, ho, hd, hws, hm⟩ := hw
  obtain ⟨C, R, n4, Q4, na, Qa, n, Q, -, hsm, -, hfr, -, -, hle⟩ := id hws
  have hFW : FW S := (w_facts hsm hfr (by omega)).2.2.2.2.2
  have hs0 := hsm.2.1
  have hs2 := hsm.1.2.1
  have hrg := hsm.1.2.2.2.2.1
  have hpr := hsm.1.2.2.2.2.2.1
  refine g_aload_n (pc := 366) (q := 1) (i := 1) cx rfl rfl dL_law_366 ?_
  refine g_aload_n (pc := 367) (q := 0) (i := 0) cx rfl rfl dL_law_367 ?_
  refine g_iload (pc := 368) (i := 4) cx rfl dL_law_368 ?_
  refine z_iconst (pc := 370) cx dL_law_370 ?_
  refine z_iadd (pc := 371) cx dL_law_371 ?_
  refine g_scr (pc := 372) cx hX hL (by omega) dL_law_372 ?_
  refine g_aload_n (pc := 373) (q := 3) (i := 3) cx rfl rfl dL_law_373 ?_
  refine g_callSX (pc := 374) (As := [.ref x, .int (iI (xs (7 * (j : Int) + 1).toNat).toInt), .ref o]) (rest := []) cx lk_L_96 (gM_fr (w_offset hst hx hws ho (t32 _)) hd) gy_L_offset ⟨⟨by decide, by decide⟩, by show K + 2 ≤ 807546; omega, by show N + 12 ≤ 6673467; omega⟩ rfl (Nat.le_of_ble_eq_true rfl) rfl dL_law_374 (fun E σ9 hX9 => ?_) (fun v9 σ9 hX9 => ?_)
  · obtain ⟨_, h9, _⟩ := hX9; exact h9.elim
  obtain ⟨σa, ⟨rfl, σb, f1, rfl, ho1, hw1, hf1⟩, rfl, hd1⟩ := hX9
  have h00 : 0 ≤ (mw S 0 0 (thO S (xs (7 * (j : Int) + 1).toNat).toInt)) 0 0 ∧ (mw S 0 0 (thO S (xs (7 * (j : Int) + 1).toNat).toInt)) 0 0 ≤ 3 := by
    rw [mw_s]
    unfold thO
    (repeat' split) <;> omega
  show G Γ _ (K + 2) (N + 12) 377 _ (.int (iI _) :: _)
  rw [uni_comm hd1]
  refine g_istore (pc := 377) (i := 5) cx (by simp) dL_law_377 ?_
  show G Γ _ _ _ 379 [some (.ref b), some (.ref x), some (.ref h), some (.ref o), some (.int (iI (7 * (j : Int)))), some (.int (iI _)), v6] []
  refine g_aload_n (pc := 379) (q := 2) (i := 2) cx rfl rfl dL_law_379 ?_
  refine g_aload_n (pc := 380) (q := 0) (i := 0) cx rfl rfl dL_law_380 ?_
  refine g_iload (pc := 381) (i := 4) cx rfl dL_law_381 ?_
  refine z_iconst (pc := 383) cx dL_law_383 ?_
  refine z_iadd (pc := 384) cx dL_law_384 ?_
  refine g_scr (pc := 385) cx hX hL (by omega) dL_law_385 ?_
  refine g_callV (pc := 386) (As := [.int (iI (xs (7 * (j : Int) + 1).toNat).toInt)]) (rest := []) cx lk_L_98 (gM_fr (c_X7_offset hm (t32 _) (by rw [hs0.2.1]; exact hs0.1)) hd1.symm) (uni_l hm.1) rfl gy_X7_offset ⟨⟨by decide, by decide⟩, by show K + 2 + 0 ≤ 807546; omega, by show N + 12 + 0 ≤ 6673467; omega⟩ rfl (Nat.le_of_ble_eq_true rfl) rfl dL_law_386 (fun E σ9 hX9 => ?_) (fun v9 σ9 hX9 => ?_)
  · obtain ⟨_, h9, _⟩ := hX9; exact h9.elim
  obtain ⟨σ2a, ⟨rfl, hm1, _⟩, rfl, hd2⟩ := hX9
  show G Γ _ (K + 2) (N + 12) 389 _ (.int (iI _) :: _)
  refine g_istore (pc := 389) (i := 6) cx (by simp) dL_law_389 ?_
  show G Γ _ _ _ 391 [some (.ref b), some (.ref x), some (.ref h), some (.ref o), some (.int (iI (7 * (j : Int)))), some (.int (iI _)), some (.int (iI _))] []
  refine g_aload_n (pc := 391) (q := 2) (i := 2) cx rfl rfl dL_law_391 ?_
  refine g_callV (pc := 392) (As := []) (rest := []) cx lk_L_76 (gM_fr (c_X7_thrown hm1) hd2) (uni_l hm1.1) rfl gy_X7_thrown ⟨⟨by decide, by decide⟩, by show K + 2 + 0 ≤ 807546; omega, by show N + 12 + 0 ≤ 6673467; omega⟩ rfl (Nat.le_of_ble_eq_true rfl) rfl dL_law_392 (fun E σ9 hX9 => ?_) (fun v9 σ9 hX9 => ?_)
  · obtain ⟨_, h9, _⟩ := hX9; exact h9.elim
  obtain ⟨σ2b, ⟨rfl, hm2, _⟩, rfl, hd3⟩ := hX9
  show G Γ _ (K + 2) (N + 12) 395 _ (.int (iI _) :: _)
  refine g_iload (pc := 395) (i := 5) cx rfl dL_law_395 ?_
  refine z_icmp_eq (pc := 397) (tgt := 402) cx ⟨by omega, by omega⟩ (by decide) dL_law_397 (fun _ => ?_) (fun c9 => absurd rfl c9)
  refine g_iload (pc := 402) (i := 5) cx rfl dL_law_402 ?_
  refine z_if_ne (pc := 404) (tgt := 419) cx (by omega) (by decide) dL_law_404 (fun cz => ?_) (fun cz => ?_)
  · skip
    refine g_goto (pc := 419) (tgt := 1060) cx (by decide) dL_law_419 ?_
    refine g_widen (k := K + 30) (n := N + 120) (by omega) (by omega) ?_
    exact hk _ _ _ ⟨σb, σ2b, f1, _, uni_comm hd3, ho1, hd3.symm, hw1, hm2⟩
  · skip
    refine g_aload_n (pc := 407) (q := 3) (i := 3) cx rfl rfl dL_law_407 ?_
    refine z_iconst (pc := 408) cx dL_law_408 ?_
    refine g_lald (pc := 409) (N := 1) (f := f1) cx (uni_r hd3 (by rw [uni_n ho1, one_s])) (iI_in (by decide) (by decide)) dL_law_409 ?_
    rw [show f1 (iI 0).toNatClampNeg = f1 0 by rw [iI_cl (by decide)]; rfl, hf1 cz]
    refine g_iload (pc := 410) (i := 6) cx rfl dL_law_410 ?_
    refine g_i2l (pc := 412) cx dL_law_412 ?_
    refine g_lcmp (pc := 413) cx dL_law_413 ?_
    rw [lg_self]
    refine z_if_eq (pc := 414) (tgt := 419) cx (by decide) (by decide) dL_law_414 (fun _ => ?_) (fun c9 => absurd rfl c9)
    refine g_goto (pc := 419) (tgt := 1060) cx (by decide) dL_law_419 ?_
    refine g_widen (k := K + 30) (n := N + 120) (by omega) (by omega) ?_
    exact hk _ _ _ ⟨σb, σ2b, f1, _, uni_comm hd3, ho1, hd3.symm, hw1, hm2⟩
set_option maxRecDepth 100000 in
set_option maxHeartbeats 4000000 in
theorem lc_gate {lc : Launch} {Γ : gC} {cd ad : Nat → Nat} {b L x h o j K N : Nat} {xs : Nat → Int32} {σ : hS} {tm : Int} {v5 v6 : Option Value} (cx : CX lc Γ cL_law RL 7 room_1) (hX : LXt Γ b L xs) (hL : L ≤ 3584) (hst : lc.stackTraces = false) (hx : x = cd 0) (hj : 7 * j + 7 ≤ L) (htm : tm ≤ 900000) (hK : K + 30 ≤ 807546) (hN : N + 120 ≤ 6673467) (hw : LI (gdA Γ) cd ad h o σ tm) (hk : ∀ σ2 u5 u6, LI (gdA Γ) cd ad h o σ2 (tm + 200) → G Γ σ2 (K + 30) (N + 120) 1060 [some (.ref b), some (.ref x), some (.ref h), some (.ref o), some (.int (iI (7 * (j : Int)))), u5, u6] []) : G Γ σ K N 422 [some (.ref b), some (.ref x), some (.ref h), some (.ref o), some (.int (iI (7 * (j : Int)))), v5, v6] [] := by
  obtain ⟨σ1, σ2, f, S, rfl, ho, hd, hws, hm⟩ := hw
  obtain ⟨C, R, n4, Q4, na, Qa, n, Q, -, hsm, -, hfr, -, -, hle⟩ := id hws
  have hFW : FW S := (w_facts hsm hfr (by omega)).2.2.2.2.2
  have hs0 := hsm.2.1
  have hs2 := hsm.1.2.1
  have hrg := hsm.1.2.2.2.2.1
  have hpr := hsm.1.2.2.2.2.2.1
  refine g_aload_n (pc := 422) (q := 1) (i := 1) cx rfl rfl dL_law_422 ?_
  refine g_aload_n (pc := 423) (q := 0) (i := 0) cx rfl rfl dL_law_423 ?_
  refine g_iload (pc := 424) (i := 4) cx rfl dL_law_424 ?_
  refine z_iconst (pc := 426) cx dL_law_426 ?_
  refine z_iadd (pc := 427) cx dL_law_427 ?_
  refine g_scr (pc := 428) cx hX hL (by omega) dL_law_428 ?_
  refine g_aload_n (pc := 429) (q := 0) (i := 0) cx rfl rfl dL_law_429 ?_
  refine g_iload (pc := 430) (i := 4) cx rfl dL_law_430 ?_
  refine z_iconst (pc := 432) cx dL_law_432 ?_
  refine z_iadd (pc := 433) cx dL_law_433 ?_
  refine g_scr (pc := 434) cx hX hL (by omega) dL_law_434 ?_
  refine g_aload_n (pc := 435) (q := 3) (i := 3) cx rfl rfl dL_law_435 ?_
  refine g_callSX (pc := 436) (As := [.ref x, .int (iI (xs (7 * (j : Int) + 1).toNat).toInt), .int (iI (xs (7 * (j : Int) + 2).toNat).toInt), .ref o]) (rest := []) cx lk_L_99 (gM_fr (w_gate hst hx hws ho (t32 _) (t32 _)) hd) gy_L_gate ⟨⟨by decide, by decide⟩, by show K + 3 ≤ 807546; omega, by show N + 18 ≤ 6673467; omega⟩ rfl (Nat.le_of_ble_eq_true rfl) rfl dL_law_436 (fun E σ9 hX9 => ?_) (fun v9 σ9 hX9 => ?_)
  · obtain ⟨_, h9, _⟩ := hX9; exact h9.elim
  obtain ⟨σa, ⟨rfl, σb, f1, rfl, ho1, hw1, hf1⟩, rfl, hd1⟩ := hX9
  have h00 : 0 ≤ (mw S 0 0 (thG S (xs (7 * (j : Int) + 1).toNat).toInt (xs (7 * (j : Int) + 2).toNat).toInt)) 0 0 ∧ (mw S 0 0 (thG S (xs (7 * (j : Int) + 1).toNat).toInt (xs (7 * (j : Int) + 2).toNat).toInt)) 0 0 ≤ 3 := by
    rw [mw_s]
    unfold thG
    (repeat' split) <;> omega
  show G Γ _ (K + 3) (N + 18) 439 _ (.int (iI _) :: _)
  rw [uni_comm hd1]
  refine g_istore (pc := 439) (i := 5) cx (by simp) dL_law_439 ?_
  show G Γ _ _ _ 441 [some (.ref b), some (.ref x), some (.ref h), some (.ref o), some (.int (iI (7 * (j : Int)))), some (.int (iI _)), v6] []
  refine g_aload_n (pc := 441) (q := 2) (i := 2) cx rfl rfl dL_law_441 ?_
  refine g_aload_n (pc := 442) (q := 0) (i := 0) cx rfl rfl dL_law_442 ?_
  refine g_iload (pc := 443) (i := 4) cx rfl dL_law_443 ?_
  refine z_iconst (pc := 445) cx dL_law_445 ?_
  refine z_iadd (pc := 446) cx dL_law_446 ?_
  refine g_scr (pc := 447) cx hX hL (by omega) dL_law_447 ?_
  refine g_aload_n (pc := 448) (q := 0) (i := 0) cx rfl rfl dL_law_448 ?_
  refine g_iload (pc := 449) (i := 4) cx rfl dL_law_449 ?_
  refine z_iconst (pc := 451) cx dL_law_451 ?_
  refine z_iadd (pc := 452) cx dL_law_452 ?_
  refine g_scr (pc := 453) cx hX hL (by omega) dL_law_453 ?_
  refine g_callV (pc := 454) (As := [.int (iI (xs (7 * (j : Int) + 1).toNat).toInt), .int (iI (xs (7 * (j : Int) + 2).toNat).toInt)]) (rest := []) cx lk_L_102 (gM_fr (c_X7_gate hm (t32 _) (t32 _) hs0.mSch) hd1.symm) (uni_l hm.1) rfl gy_X7_gate ⟨⟨by decide, by decide⟩, by show K + 3 + 0 ≤ 807546; omega, by show N + 18 + 0 ≤ 6673467; omega⟩ rfl (Nat.le_of_ble_eq_true rfl) rfl dL_law_454 (fun E σ9 hX9 => ?_) (fun v9 σ9 hX9 => ?_)
  · obtain ⟨_, h9, _⟩ := hX9; exact h9.elim
  obtain ⟨σ2a, ⟨rfl, hm1, _⟩, rfl, hd2⟩ := hX9
  show G Γ _ (K + 3) (N + 18) 457 _ (.int (iI _) :: _)
  refine g_istore (pc := 457) (i := 6) cx (by simp) dL_law_457 ?_
  show G Γ _ _ _ 459 [some (.ref b), some (.ref x), some (.ref h), some (.ref o), some (.int (iI (7 * (j : Int)))), some (.int (iI _)), some (.int (iI _))] []
  refine g_aload_n (pc := 459) (q := 2) (i := 2) cx rfl rfl dL_law_459 ?_
  refine g_callV (pc := 460) (As := []) (rest := []) cx lk_L_76 (gM_fr (c_X7_thrown hm1) hd2) (uni_l hm1.1) rfl gy_X7_thrown ⟨⟨by decide, by decide⟩, by show K + 3 + 0 ≤ 807546; omega, by show N + 18 + 0 ≤ 6673467; omega⟩ rfl (Nat.le_of_ble_eq_true rfl) rfl dL_law_460 (fun E σ9 hX9 => ?_) (fun v9 σ9 hX9 => ?_)
  · obtain ⟨_, h9, _⟩ := hX9; exact h9.elim
  obtain ⟨σ2b, ⟨rfl, hm2, _⟩, rfl, hd3⟩ := hX9
  show G Γ _ (K + 3) (N + 18) 463 _ (.int (iI _) :: _)
  refine g_iload (pc := 463) (i := 5) cx rfl dL_law_463 ?_
  refine z_icmp_eq (pc := 465) (tgt := 470) cx ⟨by omega, by omega⟩ (by decide) dL_law_465 (fun _ => ?_) (fun c9 => absurd rfl c9)
  refine g_iload (pc := 470) (i := 5) cx rfl dL_law_470 ?_
  refine z_if_ne (pc := 472) (tgt := 487) cx (by omega) (by decide) dL_law_472 (fun cz => ?_) (fun cz => ?_)
  · skip
    refine g_goto (pc := 487) (tgt := 1060) cx (by decide) dL_law_487 ?_
    refine g_widen (k := K + 30) (n := N + 120) (by omega) (by omega) ?_
    exact hk _ _ _ ⟨σb, σ2b, f1, _, uni_comm hd3, ho1, hd3.symm, hw1, hm2⟩
  · skip
    refine g_aload_n (pc := 475) (q := 3) (i := 3) cx rfl rfl dL_law_475 ?_
    refine z_iconst (pc := 476) cx dL_law_476 ?_
    refine g_lald (pc := 477) (N := 1) (f := f1) cx (uni_r hd3 (by rw [uni_n ho1, one_s])) (iI_in (by decide) (by decide)) dL_law_477 ?_
    rw [show f1 (iI 0).toNatClampNeg = f1 0 by rw [iI_cl (by decide)]; rfl, hf1 cz]
    refine g_iload (pc := 478) (i := 6) cx rfl dL_law_478 ?_
    refine g_i2l (pc := 480) cx dL_law_480 ?_
    refine g_lcmp (pc := 481) cx dL_law_481 ?_
    rw [lg_self]
    refine z_if_eq (pc := 482) (tgt := 487) cx (by decide) (by decide) dL_law_482 (fun _ => ?_) (fun c9 => absurd rfl c9)
    refine g_goto (pc := 487) (tgt := 1060) cx (by decide) dL_law_487 ?_
    refine g_widen (k := K + 30) (n := N + 120) (by omega) (by omega) ?_
    exact hk _ _ _ ⟨σb, σ2b, f1, _, uni_comm hd3, ho1, hd3.symm, hw1, hm2⟩
set_option maxRecDepth 100000 in
set_option maxHeartbeats 4000000 in
theorem lc_activate {lc : Launch} {Γ : gC} {cd ad : Nat → Nat} {b L x h o j K N : Nat} {xs : Nat → Int32} {σ : hS} {tm : Int} {v5 v6 : Option Value} (cx : CX lc Γ cL_law RL 7 room_1) (hX : LXt Γ b L xs) (hL : L ≤ 3584) (hst : lc.stackTraces = false) (hx : x = cd 0) (hj : 7 * j + 7 ≤ L) (htm : tm ≤ 900000) (hK : K + 30 ≤ 807546) (hN : N + 120 ≤ 6673467) (hw : LI (gdA Γ) cd ad h o σ tm) (hk : ∀ σ2 u5 u6, LI (gdA Γ) cd ad h o σ2 (tm + 200) → G Γ σ2 (K + 30) (N + 120) 1060 [some (.ref b), some (.ref x), some (.ref h), some (.ref o), some (.int (iI (7 * (j : Int)))), u5, u6] []) : G Γ σ K N 490 [some (.ref b), some (.ref x), some (.ref h), some (.ref o), some (.int (iI (7 * (j : Int)))), v5, v6] [] := by
  obtain ⟨σ1, σ2, f, S, rfl, ho, hd, hws, hm⟩ := hw
  obtain ⟨C, R, n4, Q4, na, Qa, n, Q, -, hsm, -, hfr, -, -, hle⟩ := id hws
  have hFW : FW S := (w_facts hsm hfr (by omega)).2.2.2.2.2
  have hs0 := hsm.2.1
  have hs2 := hsm.1.2.1
  have hrg := hsm.1.2.2.2.2.1
  have hpr := hsm.1.2.2.2.2.2.1
  refine g_aload_n (pc := 490) (q := 1) (i := 1) cx rfl rfl dL_law_490 ?_
  refine g_callSX (pc := 491) (As := [.ref x]) (rest := []) cx lk_L_103 (gM_fr (w_activate hst hx hws ho) hd) gy_L_activate ⟨⟨by decide, by decide⟩, by show K + 1 ≤ 807546; omega, by show N + 6 ≤ 6673467; omega⟩ rfl (Nat.le_of_ble_eq_true rfl) rfl dL_law_491 (fun E σ9 hX9 => ?_) (fun v9 σ9 hX9 => ?_)
  · obtain ⟨_, h9, _⟩ := hX9; exact h9.elim
  obtain ⟨σa, ⟨rfl, σb, f1, rfl, ho1, hw1, hf1⟩, rfl, hd1⟩ := hX9
  have h00 : 0 ≤ (actS S) 0 0 ∧ (actS S) 0 0 ≤ 3 := by
    rw [r_act.1]
    unfold thA
    (repeat' split) <;> omega
  show G Γ _ (K + 1) (N + 6) 494 _ (.int (iI _) :: _)
  rw [uni_comm hd1]
  refine g_istore (pc := 494) (i := 5) cx (by simp) dL_law_494 ?_
  show G Γ _ _ _ 496 [some (.ref b), some (.ref x), some (.ref h), some (.ref o), some (.int (iI (7 * (j : Int)))), some (.int (iI _)), v6] []
  refine g_aload_n (pc := 496) (q := 2) (i := 2) cx rfl rfl dL_law_496 ?_
  refine g_callV (pc := 497) (As := []) (rest := []) cx lk_L_106 (gM_fr (c_X7_activate hm (by rw [hs0.2.1]; exact hs0.1)) hd1.symm) (uni_l hm.1) rfl gy_X7_activate ⟨⟨by decide, by decide⟩, by show K + 1 + 0 ≤ 807546; omega, by show N + 6 + 0 ≤ 6673467; omega⟩ rfl (Nat.le_of_ble_eq_true rfl) rfl dL_law_497 (fun E σ9 hX9 => ?_) (fun v9 σ9 hX9 => ?_)
  · obtain ⟨_, h9, _⟩ := hX9; exact h9.elim
  obtain ⟨σ2a, ⟨rfl, hm1, _⟩, rfl, hd2⟩ := hX9
  show G Γ _ (K + 1) (N + 6) 500 _ _
  refine g_aload_n (pc := 500) (q := 2) (i := 2) cx rfl rfl dL_law_500 ?_
  refine g_callV (pc := 501) (As := []) (rest := []) cx lk_L_76 (gM_fr (c_X7_thrown hm1) hd2) (uni_l hm1.1) rfl gy_X7_thrown ⟨⟨by decide, by decide⟩, by show K + 1 + 0 ≤ 807546; omega, by show N + 6 + 0 ≤ 6673467; omega⟩ rfl (Nat.le_of_ble_eq_true rfl) rfl dL_law_501 (fun E σ9 hX9 => ?_) (fun v9 σ9 hX9 => ?_)
  · obtain ⟨_, h9, _⟩ := hX9; exact h9.elim
  obtain ⟨σ2b, ⟨rfl, hm2, _⟩, rfl, hd3⟩ := hX9
  show G Γ _ (K + 1) (N + 6) 504 _ (.int (iI _) :: _)
  refine g_iload (pc := 504) (i := 5) cx rfl dL_law_504 ?_
  refine z_icmp_eq (pc := 506) (tgt := 511) cx ⟨by omega, by omega⟩ (by decide) dL_law_506 (fun _ => ?_) (fun c9 => absurd rfl c9)
  refine g_goto (pc := 511) (tgt := 1060) cx (by decide) dL_law_511 ?_
  refine g_widen (k := K + 30) (n := N + 120) (by omega) (by omega) ?_
  exact hk _ _ _ ⟨σb, σ2b, f1, _, uni_comm hd3, ho1, hd3.symm, hw1, hm2⟩
set_option maxRecDepth 100000 in
set_option maxHeartbeats 4000000 in
theorem lc_tick {lc : Launch} {Γ : gC} {cd ad : Nat → Nat} {b L x h o j K N : Nat} {xs : Nat → Int32} {σ : hS} {tm : Int} {v5 v6 : Option Value} (cx : CX lc Γ cL_law RL 7 room_1) (hX : LXt Γ b L xs) (hL : L ≤ 3584) (hst : lc.stackTraces = false) (hx : x = cd 0) (hj : 7 * j + 7 ≤ L) (htm : tm ≤ 900000) (hK : K + 30 ≤ 807546) (hN : N + 120 ≤ 6673467) (hw : LI (gdA Γ) cd ad h o σ tm) (hk : ∀ σ2 u5 u6, LI (gdA Γ) cd ad h o σ2 (tm + 200) → G Γ σ2 (K + 30) (N + 120) 1060 [some (.ref b), some (.ref x), some (.ref h), some (.ref o), some (.int (iI (7 * (j : Int)))), u5, u6] []) : G Γ σ K N 514 [some (.ref b), some (.ref x), some (.ref h), some (.ref o), some (.int (iI (7 * (j : Int)))), v5, v6] [] := by
  obtain ⟨σ1, σ2, f, S, rfl, ho, hd, hws, hm⟩ := hw
  obtain ⟨C, R, n4, Q4, na, Qa, n, Q, -, hsm, -, hfr, -, -, hle⟩ := id hws
  have hFW : FW S := (w_facts hsm hfr (by omega)).2.2.2.2.2
  have hs0 := hsm.2.1
  have hs2 := hsm.1.2.1
  have hrg := hsm.1.2.2.2.2.1
  have hpr := hsm.1.2.2.2.2.2.1
  refine g_aload_n (pc := 514) (q := 1) (i := 1) cx rfl rfl dL_law_514 ?_
  refine g_aload_n (pc := 515) (q := 0) (i := 0) cx rfl rfl dL_law_515 ?_
  refine g_iload (pc := 516) (i := 4) cx rfl dL_law_516 ?_
  refine z_iconst (pc := 518) cx dL_law_518 ?_
  refine z_iadd (pc := 519) cx dL_law_519 ?_
  refine g_scr (pc := 520) cx hX hL (by omega) dL_law_520 ?_
  refine g_aload_n (pc := 521) (q := 3) (i := 3) cx rfl rfl dL_law_521 ?_
  refine g_callSX (pc := 522) (As := [.ref x, .int (iI (xs (7 * (j : Int) + 1).toNat).toInt), .ref o]) (rest := []) cx lk_L_107 (gM_fr (w_tick hst hx hws htm ho (t32 _)) hd) gy_L_tick ⟨⟨by decide, by decide⟩, by show K + 1 ≤ 807546; omega, by show N + 6 ≤ 6673467; omega⟩ rfl (Nat.le_of_ble_eq_true rfl) rfl dL_law_522 (fun E σ9 hX9 => ?_) (fun v9 σ9 hX9 => ?_)
  · obtain ⟨_, h9, _⟩ := hX9; exact h9.elim
  obtain ⟨σa, ⟨rfl, σb, f1, rfl, ho1, hw1, hf1⟩, rfl, hd1⟩ := hX9
  have h00 : 0 ≤ (tickS S (xs (7 * (j : Int) + 1).toNat).toInt) 0 0 ∧ (tickS S (xs (7 * (j : Int) + 1).toNat).toInt) 0 0 ≤ 3 := by
    rw [(tick_0 hsm (by omega))]
    unfold thT
    (repeat' split) <;> omega
  show G Γ _ (K + 1) (N + 6) 525 _ (.int (iI _) :: _)
  rw [uni_comm hd1]
  refine g_istore (pc := 525) (i := 5) cx (by simp) dL_law_525 ?_
  show G Γ _ _ _ 527 [some (.ref b), some (.ref x), some (.ref h), some (.ref o), some (.int (iI (7 * (j : Int)))), some (.int (iI _)), v6] []
  refine g_aload_n (pc := 527) (q := 2) (i := 2) cx rfl rfl dL_law_527 ?_
  refine g_aload_n (pc := 528) (q := 0) (i := 0) cx rfl rfl dL_law_528 ?_
  refine g_iload (pc := 529) (i := 4) cx rfl dL_law_529 ?_
  refine z_iconst (pc := 531) cx dL_law_531 ?_
  refine z_iadd (pc := 532) cx dL_law_532 ?_
  refine g_scr (pc := 533) cx hX hL (by omega) dL_law_533 ?_
  refine g_callV (pc := 534) (As := [.int (iI (xs (7 * (j : Int) + 1).toNat).toInt)]) (rest := []) cx lk_L_109 (gM_fr (c_X7_tick hm (t32 _) (fun q i hi => ((sm_tick hsm (by omega)).1 q i hi).2)) hd1.symm) (uni_l hm.1) rfl gy_X7_tick ⟨⟨by decide, by decide⟩, by show K + 1 + 0 ≤ 807546; omega, by show N + 6 + 0 ≤ 6673467; omega⟩ rfl (Nat.le_of_ble_eq_true rfl) rfl dL_law_534 (fun E σ9 hX9 => ?_) (fun v9 σ9 hX9 => ?_)
  · obtain ⟨_, h9, _⟩ := hX9; exact h9.elim
  obtain ⟨σ2a, ⟨rfl, hm1, _⟩, rfl, hd2⟩ := hX9
  show G Γ _ (K + 1) (N + 6) 537 _ (.int (iI _) :: _)
  refine g_istore (pc := 537) (i := 6) cx (by simp) dL_law_537 ?_
  show G Γ _ _ _ 539 [some (.ref b), some (.ref x), some (.ref h), some (.ref o), some (.int (iI (7 * (j : Int)))), some (.int (iI _)), some (.int (iI _))] []
  refine g_aload_n (pc := 539) (q := 2) (i := 2) cx rfl rfl dL_law_539 ?_
  refine g_callV (pc := 540) (As := []) (rest := []) cx lk_L_76 (gM_fr (c_X7_thrown hm1) hd2) (uni_l hm1.1) rfl gy_X7_thrown ⟨⟨by decide, by decide⟩, by show K + 1 + 0 ≤ 807546; omega, by show N + 6 + 0 ≤ 6673467; omega⟩ rfl (Nat.le_of_ble_eq_true rfl) rfl dL_law_540 (fun E σ9 hX9 => ?_) (fun v9 σ9 hX9 => ?_)
  · obtain ⟨_, h9, _⟩ := hX9; exact h9.elim
  obtain ⟨σ2b, ⟨rfl, hm2, _⟩, rfl, hd3⟩ := hX9
  show G Γ _ (K + 1) (N + 6) 543 _ (.int (iI _) :: _)
  refine g_iload (pc := 543) (i := 5) cx rfl dL_law_543 ?_
  refine z_icmp_eq (pc := 545) (tgt := 550) cx ⟨by omega, by omega⟩ (by decide) dL_law_545 (fun _ => ?_) (fun c9 => absurd rfl c9)
  refine g_iload (pc := 550) (i := 5) cx rfl dL_law_550 ?_
  refine z_if_ne (pc := 552) (tgt := 567) cx (by omega) (by decide) dL_law_552 (fun cz => ?_) (fun cz => ?_)
  · skip
    refine g_goto (pc := 567) (tgt := 1060) cx (by decide) dL_law_567 ?_
    refine g_widen (k := K + 30) (n := N + 120) (by omega) (by omega) ?_
    exact hk _ _ _ ⟨σb, σ2b, f1, _, uni_comm hd3, ho1, hd3.symm, hw1, hm2⟩
  · skip
    refine g_aload_n (pc := 555) (q := 3) (i := 3) cx rfl rfl dL_law_555 ?_
    refine z_iconst (pc := 556) cx dL_law_556 ?_
    refine g_lald (pc := 557) (N := 1) (f := f1) cx (uni_r hd3 (by rw [uni_n ho1, one_s])) (iI_in (by decide) (by decide)) dL_law_557 ?_
    rw [show f1 (iI 0).toNatClampNeg = f1 0 by rw [iI_cl (by decide)]; rfl, hf1 cz]
    refine g_iload (pc := 558) (i := 6) cx rfl dL_law_558 ?_
    refine g_i2l (pc := 560) cx dL_law_560 ?_
    refine g_lcmp (pc := 561) cx dL_law_561 ?_
    rw [lg_self]
    refine z_if_eq (pc := 562) (tgt := 567) cx (by decide) (by decide) dL_law_562 (fun _ => ?_) (fun c9 => absurd rfl c9)
    refine g_goto (pc := 567) (tgt := 1060) cx (by decide) dL_law_567 ?_
    refine g_widen (k := K + 30) (n := N + 120) (by omega) (by omega) ?_
    exact hk _ _ _ ⟨σb, σ2b, f1, _, uni_comm hd3, ho1, hd3.symm, hw1, hm2⟩
set_option maxRecDepth 100000 in
set_option maxHeartbeats 4000000 in
theorem lc_talk {lc : Launch} {Γ : gC} {cd ad : Nat → Nat} {b L x h o j K N : Nat} {xs : Nat → Int32} {σ : hS} {tm : Int} {v5 v6 : Option Value} (cx : CX lc Γ cL_law RL 7 room_1) (hX : LXt Γ b L xs) (hL : L ≤ 3584) (hst : lc.stackTraces = false) (hx : x = cd 0) (hj : 7 * j + 7 ≤ L) (htm : tm ≤ 900000) (hK : K + 30 ≤ 807546) (hN : N + 120 ≤ 6673467) (hw : LI (gdA Γ) cd ad h o σ tm) (hk : ∀ σ2 u5 u6, LI (gdA Γ) cd ad h o σ2 (tm + 200) → G Γ σ2 (K + 30) (N + 120) 1060 [some (.ref b), some (.ref x), some (.ref h), some (.ref o), some (.int (iI (7 * (j : Int)))), u5, u6] []) : G Γ σ K N 570 [some (.ref b), some (.ref x), some (.ref h), some (.ref o), some (.int (iI (7 * (j : Int)))), v5, v6] [] := by
  obtain ⟨σ1, σ2, f, S, rfl, ho, hd, hws, hm⟩ := hw
  obtain ⟨C, R, n4, Q4, na, Qa, n, Q, -, hsm, -, hfr, -, -, hle⟩ := id hws
  have hFW : FW S := (w_facts hsm hfr (by omega)).2.2.2.2.2
  have hs0 := hsm.2.1
  have hs2 := hsm.1.2.1
  have hrg := hsm.1.2.2.2.2.1
  have hpr := hsm.1.2.2.2.2.2.1
  refine g_aload_n (pc := 570) (q := 1) (i := 1) cx rfl rfl dL_law_570 ?_
  refine g_aload_n (pc := 571) (q := 0) (i := 0) cx rfl rfl dL_law_571 ?_
  refine g_iload (pc := 572) (i := 4) cx rfl dL_law_572 ?_
  refine z_iconst (pc := 574) cx dL_law_574 ?_
  refine z_iadd (pc := 575) cx dL_law_575 ?_
  refine g_scr (pc := 576) cx hX hL (by omega) dL_law_576 ?_
  refine g_aload_n (pc := 577) (q := 0) (i := 0) cx rfl rfl dL_law_577 ?_
  refine g_iload (pc := 578) (i := 4) cx rfl dL_law_578 ?_
  refine z_iconst (pc := 580) cx dL_law_580 ?_
  refine z_iadd (pc := 581) cx dL_law_581 ?_
  refine g_scr (pc := 582) cx hX hL (by omega) dL_law_582 ?_
  refine z_if_eq (pc := 583) (tgt := 590) cx (t32 _) (by decide) dL_law_583 (fun cs => ?_) (fun cs => ?_)
  · skip
    refine z_iconst (pc := 590) cx dL_law_590 ?_
    refine g_aload_n (pc := 591) (q := 0) (i := 0) cx rfl rfl dL_law_591 ?_
    refine g_iload (pc := 592) (i := 4) cx rfl dL_law_592 ?_
    refine z_iconst (pc := 594) cx dL_law_594 ?_
    refine z_iadd (pc := 595) cx dL_law_595 ?_
    refine g_scr (pc := 596) cx hX hL (by omega) dL_law_596 ?_
    refine g_callSX (pc := 597) (As := [.ref x, .int (iI (xs (7 * (j : Int) + 1).toNat).toInt), .int (iI 0), .int (iI (xs (7 * (j : Int) + 3).toNat).toInt)]) (rest := []) cx lk_L_110 (gM_fr (w_talk hst hx hws ho (t32 _) (Or.inl rfl) (t32 _)) hd) gy_L_talk ⟨⟨by decide, by decide⟩, by show K + 2 ≤ 807546; omega, by show N + 12 ≤ 6673467; omega⟩ rfl (Nat.le_of_ble_eq_true rfl) rfl dL_law_597 (fun E σ9 hX9 => ?_) (fun v9 σ9 hX9 => ?_)
    · obtain ⟨_, h9, _⟩ := hX9; exact h9.elim
    obtain ⟨σa, ⟨rfl, σb, f1, rfl, ho1, hw1, hf1⟩, rfl, hd1⟩ := hX9
    have h00 : 0 ≤ (talkS S (xs (7 * (j : Int) + 1).toNat).toInt 0 (xs (7 * (j : Int) + 3).toNat).toInt) 0 0 ∧ (talkS S (xs (7 * (j : Int) + 1).toNat).toInt 0 (xs (7 * (j : Int) + 3).toNat).toInt) 0 0 ≤ 3 := by
      rw [r_talk.1]
      unfold thK
      (repeat' split) <;> omega
    show G Γ _ (K + 2) (N + 12) 600 _ (.int (iI _) :: _)
    rw [uni_comm hd1]
    refine g_istore (pc := 600) (i := 5) cx (by simp) dL_law_600 ?_
    show G Γ _ _ _ 602 [some (.ref b), some (.ref x), some (.ref h), some (.ref o), some (.int (iI (7 * (j : Int)))), some (.int (iI _)), v6] []
    refine g_aload_n (pc := 602) (q := 2) (i := 2) cx rfl rfl dL_law_602 ?_
    refine g_aload_n (pc := 603) (q := 0) (i := 0) cx rfl rfl dL_law_603 ?_
    refine g_iload (pc := 604) (i := 4) cx rfl dL_law_604 ?_
    refine z_iconst (pc := 606) cx dL_law_606 ?_
    refine z_iadd (pc := 607) cx dL_law_607 ?_
    refine g_scr (pc := 608) cx hX hL (by omega) dL_law_608 ?_
    refine g_aload_n (pc := 609) (q := 0) (i := 0) cx rfl rfl dL_law_609 ?_
    refine g_iload (pc := 610) (i := 4) cx rfl dL_law_610 ?_
    refine z_iconst (pc := 612) cx dL_law_612 ?_
    refine z_iadd (pc := 613) cx dL_law_613 ?_
    refine g_scr (pc := 614) cx hX hL (by omega) dL_law_614 ?_
    refine z_if_eq (pc := 615) (tgt := 622) cx (t32 _) (by decide) dL_law_615 (fun _ => ?_) (fun c2 => absurd cs c2)
    refine z_iconst (pc := 622) cx dL_law_622 ?_
    refine g_aload_n (pc := 623) (q := 0) (i := 0) cx rfl rfl dL_law_623 ?_
    refine g_iload (pc := 624) (i := 4) cx rfl dL_law_624 ?_
    refine z_iconst (pc := 626) cx dL_law_626 ?_
    refine z_iadd (pc := 627) cx dL_law_627 ?_
    refine g_scr (pc := 628) cx hX hL (by omega) dL_law_628 ?_
    refine g_callV (pc := 629) (As := [.int (iI (xs (7 * (j : Int) + 1).toNat).toInt), .int (iI 0), .int (iI (xs (7 * (j : Int) + 3).toNat).toInt)]) (rest := []) cx lk_L_113 (gM_fr (c_X7_talk hm (t32 _) (Or.inl rfl) (t32 _) (by rw [hs2.2.1]; exact hs2.1)) hd1.symm) (uni_l hm.1) rfl gy_X7_talk ⟨⟨by decide, by decide⟩, by show K + 2 + 0 ≤ 807546; omega, by show N + 12 + 0 ≤ 6673467; omega⟩ rfl (Nat.le_of_ble_eq_true rfl) rfl dL_law_629 (fun E σ9 hX9 => ?_) (fun v9 σ9 hX9 => ?_)
    · obtain ⟨_, h9, _⟩ := hX9; exact h9.elim
    obtain ⟨σ2a, ⟨rfl, hm1, _⟩, rfl, hd2⟩ := hX9
    show G Γ _ (K + 2) (N + 12) 632 _ _
    refine g_aload_n (pc := 632) (q := 2) (i := 2) cx rfl rfl dL_law_632 ?_
    refine g_callV (pc := 633) (As := []) (rest := []) cx lk_L_76 (gM_fr (c_X7_thrown hm1) hd2) (uni_l hm1.1) rfl gy_X7_thrown ⟨⟨by decide, by decide⟩, by show K + 2 + 0 ≤ 807546; omega, by show N + 12 + 0 ≤ 6673467; omega⟩ rfl (Nat.le_of_ble_eq_true rfl) rfl dL_law_633 (fun E σ9 hX9 => ?_) (fun v9 σ9 hX9 => ?_)
    · obtain ⟨_, h9, _⟩ := hX9; exact h9.elim
    obtain ⟨σ2b, ⟨rfl, hm2, _⟩, rfl, hd3⟩ := hX9
    show G Γ _ (K + 2) (N + 12) 636 _ (.int (iI _) :: _)
    refine g_iload (pc := 636) (i := 5) cx rfl dL_law_636 ?_
    refine z_icmp_eq (pc := 638) (tgt := 643) cx ⟨by omega, by omega⟩ (by decide) dL_law_638 (fun _ => ?_) (fun c9 => absurd rfl c9)
    refine g_goto (pc := 643) (tgt := 1060) cx (by decide) dL_law_643 ?_
    refine g_widen (k := K + 30) (n := N + 120) (by omega) (by omega) ?_
    exact hk _ _ _ ⟨σb, σ2b, f1, _, uni_comm hd3, ho1, hd3.symm, hw1, hm2⟩
  · skip
    refine z_iconst (pc := 586) cx dL_law_586 ?_
    refine g_goto (pc := 587) (tgt := 591) cx (by decide) dL_law_587 ?_
    refine g_aload_n (pc := 591) (q := 0) (i := 0) cx rfl rfl dL_law_591 ?_
    refine g_iload (pc := 592) (i := 4) cx rfl dL_law_592 ?_
    refine z_iconst (pc := 594) cx dL_law_594 ?_
    refine z_iadd (pc := 595) cx dL_law_595 ?_
    refine g_scr (pc := 596) cx hX hL (by omega) dL_law_596 ?_
    refine g_callSX (pc := 597) (As := [.ref x, .int (iI (xs (7 * (j : Int) + 1).toNat).toInt), .int (iI 1), .int (iI (xs (7 * (j : Int) + 3).toNat).toInt)]) (rest := []) cx lk_L_110 (gM_fr (w_talk hst hx hws ho (t32 _) (Or.inr rfl) (t32 _)) hd) gy_L_talk ⟨⟨by decide, by decide⟩, by show K + 2 ≤ 807546; omega, by show N + 12 ≤ 6673467; omega⟩ rfl (Nat.le_of_ble_eq_true rfl) rfl dL_law_597 (fun E σ9 hX9 => ?_) (fun v9 σ9 hX9 => ?_)
    · obtain ⟨_, h9, _⟩ := hX9; exact h9.elim
    obtain ⟨σa, ⟨rfl, σb, f1, rfl, ho1, hw1, hf1⟩, rfl, hd1⟩ := hX9
    have h00 : 0 ≤ (talkS S (xs (7 * (j : Int) + 1).toNat).toInt 1 (xs (7 * (j : Int) + 3).toNat).toInt) 0 0 ∧ (talkS S (xs (7 * (j : Int) + 1).toNat).toInt 1 (xs (7 * (j : Int) + 3).toNat).toInt) 0 0 ≤ 3 := by
      rw [r_talk.1]
      unfold thK
      (repeat' split) <;> omega
    show G Γ _ (K + 2) (N + 12) 600 _ (.int (iI _) :: _)
    rw [uni_comm hd1]
    refine g_istore (pc := 600) (i := 5) cx (by simp) dL_law_600 ?_
    show G Γ _ _ _ 602 [some (.ref b), some (.ref x), some (.ref h), some (.ref o), some (.int (iI (7 * (j : Int)))), some (.int (iI _)), v6] []
    refine g_aload_n (pc := 602) (q := 2) (i := 2) cx rfl rfl dL_law_602 ?_
    refine g_aload_n (pc := 603) (q := 0) (i := 0) cx rfl rfl dL_law_603 ?_
    refine g_iload (pc := 604) (i := 4) cx rfl dL_law_604 ?_
    refine z_iconst (pc := 606) cx dL_law_606 ?_
    refine z_iadd (pc := 607) cx dL_law_607 ?_
    refine g_scr (pc := 608) cx hX hL (by omega) dL_law_608 ?_
    refine g_aload_n (pc := 609) (q := 0) (i := 0) cx rfl rfl dL_law_609 ?_
    refine g_iload (pc := 610) (i := 4) cx rfl dL_law_610 ?_
    refine z_iconst (pc := 612) cx dL_law_612 ?_
    refine z_iadd (pc := 613) cx dL_law_613 ?_
    refine g_scr (pc := 614) cx hX hL (by omega) dL_law_614 ?_
    refine z_if_eq (pc := 615) (tgt := 622) cx (t32 _) (by decide) dL_law_615 (fun c2 => absurd c2 cs) (fun _ => ?_)
    refine z_iconst (pc := 618) cx dL_law_618 ?_
    refine g_goto (pc := 619) (tgt := 623) cx (by decide) dL_law_619 ?_
    refine g_aload_n (pc := 623) (q := 0) (i := 0) cx rfl rfl dL_law_623 ?_
    refine g_iload (pc := 624) (i := 4) cx rfl dL_law_624 ?_
    refine z_iconst (pc := 626) cx dL_law_626 ?_
    refine z_iadd (pc := 627) cx dL_law_627 ?_
    refine g_scr (pc := 628) cx hX hL (by omega) dL_law_628 ?_
    refine g_callV (pc := 629) (As := [.int (iI (xs (7 * (j : Int) + 1).toNat).toInt), .int (iI 1), .int (iI (xs (7 * (j : Int) + 3).toNat).toInt)]) (rest := []) cx lk_L_113 (gM_fr (c_X7_talk hm (t32 _) (Or.inr rfl) (t32 _) (by rw [hs2.2.1]; exact hs2.1)) hd1.symm) (uni_l hm.1) rfl gy_X7_talk ⟨⟨by decide, by decide⟩, by show K + 2 + 0 ≤ 807546; omega, by show N + 12 + 0 ≤ 6673467; omega⟩ rfl (Nat.le_of_ble_eq_true rfl) rfl dL_law_629 (fun E σ9 hX9 => ?_) (fun v9 σ9 hX9 => ?_)
    · obtain ⟨_, h9, _⟩ := hX9; exact h9.elim
    obtain ⟨σ2a, ⟨rfl, hm1, _⟩, rfl, hd2⟩ := hX9
    show G Γ _ (K + 2) (N + 12) 632 _ _
    refine g_aload_n (pc := 632) (q := 2) (i := 2) cx rfl rfl dL_law_632 ?_
    refine g_callV (pc := 633) (As := []) (rest := []) cx lk_L_76 (gM_fr (c_X7_thrown hm1) hd2) (uni_l hm1.1) rfl gy_X7_thrown ⟨⟨by decide, by decide⟩, by show K + 2 + 0 ≤ 807546; omega, by show N + 12 + 0 ≤ 6673467; omega⟩ rfl (Nat.le_of_ble_eq_true rfl) rfl dL_law_633 (fun E σ9 hX9 => ?_) (fun v9 σ9 hX9 => ?_)
    · obtain ⟨_, h9, _⟩ := hX9; exact h9.elim
    obtain ⟨σ2b, ⟨rfl, hm2, _⟩, rfl, hd3⟩ := hX9
    show G Γ _ (K + 2) (N + 12) 636 _ (.int (iI _) :: _)
    refine g_iload (pc := 636) (i := 5) cx rfl dL_law_636 ?_
    refine z_icmp_eq (pc := 638) (tgt := 643) cx ⟨by omega, by omega⟩ (by decide) dL_law_638 (fun _ => ?_) (fun c9 => absurd rfl c9)
    refine g_goto (pc := 643) (tgt := 1060) cx (by decide) dL_law_643 ?_
    refine g_widen (k := K + 30) (n := N + 120) (by omega) (by omega) ?_
    exact hk _ _ _ ⟨σb, σ2b, f1, _, uni_comm hd3, ho1, hd3.symm, hw1, hm2⟩
set_option maxRecDepth 100000 in
set_option maxHeartbeats 4000000 in
theorem lc_unblock {lc : Launch} {Γ : gC} {cd ad : Nat → Nat} {b L x h o j K N : Nat} {xs : Nat → Int32} {σ : hS} {tm : Int} {v5 v6 : Option Value} (cx : CX lc Γ cL_law RL 7 room_1) (hX : LXt Γ b L xs) (hL : L ≤ 3584) (hst : lc.stackTraces = false) (hx : x = cd 0) (hj : 7 * j + 7 ≤ L) (htm : tm ≤ 900000) (hK : K + 30 ≤ 807546) (hN : N + 120 ≤ 6673467) (hw : LI (gdA Γ) cd ad h o σ tm) (hk : ∀ σ2 u5 u6, LI (gdA Γ) cd ad h o σ2 (tm + 200) → G Γ σ2 (K + 30) (N + 120) 1060 [some (.ref b), some (.ref x), some (.ref h), some (.ref o), some (.int (iI (7 * (j : Int)))), u5, u6] []) : G Γ σ K N 646 [some (.ref b), some (.ref x), some (.ref h), some (.ref o), some (.int (iI (7 * (j : Int)))), v5, v6] [] := by
  obtain ⟨σ1, σ2, f, S, rfl, ho, hd, hws, hm⟩ := hw
  obtain ⟨C, R, n4, Q4, na, Qa, n, Q, -, hsm, -, hfr, -, -, hle⟩ := id hws
  have hFW : FW S := (w_facts hsm hfr (by omega)).2.2.2.2.2
  have hs0 := hsm.2.1
  have hs2 := hsm.1.2.1
  have hrg := hsm.1.2.2.2.2.1
  have hpr := hsm.1.2.2.2.2.2.1
  refine g_aload_n (pc := 646) (q := 1) (i := 1) cx rfl rfl dL_law_646 ?_
  refine g_aload_n (pc := 647) (q := 0) (i := 0) cx rfl rfl dL_law_647 ?_
  refine g_iload (pc := 648) (i := 4) cx rfl dL_law_648 ?_
  refine z_iconst (pc := 650) cx dL_law_650 ?_
  refine z_iadd (pc := 651) cx dL_law_651 ?_
  refine g_scr (pc := 652) cx hX hL (by omega) dL_law_652 ?_
  refine g_aload_n (pc := 653) (q := 3) (i := 3) cx rfl rfl dL_law_653 ?_
  refine g_callSX (pc := 654) (As := [.ref x, .int (iI (xs (7 * (j : Int) + 1).toNat).toInt), .ref o]) (rest := []) cx lk_L_114 (gM_fr (w_unblock hst hx hws ho (t32 _)) hd) gy_L_unblock ⟨⟨by decide, by decide⟩, by show K + 1 ≤ 807546; omega, by show N + 6 ≤ 6673467; omega⟩ rfl (Nat.le_of_ble_eq_true rfl) rfl dL_law_654 (fun E σ9 hX9 => ?_) (fun v9 σ9 hX9 => ?_)
  · obtain ⟨_, h9, _⟩ := hX9; exact h9.elim
  obtain ⟨σa, ⟨rfl, σb, f1, rfl, ho1, hw1, hf1⟩, rfl, hd1⟩ := hX9
  have h00 : 0 ≤ (unbS S (xs (7 * (j : Int) + 1).toNat).toInt) 0 0 ∧ (unbS S (xs (7 * (j : Int) + 1).toNat).toInt) 0 0 ≤ 3 := by
    rw [r_unb.1]
    unfold thU
    (repeat' split) <;> omega
  show G Γ _ (K + 1) (N + 6) 657 _ (.int (iI _) :: _)
  rw [uni_comm hd1]
  refine g_istore (pc := 657) (i := 5) cx (by simp) dL_law_657 ?_
  show G Γ _ _ _ 659 [some (.ref b), some (.ref x), some (.ref h), some (.ref o), some (.int (iI (7 * (j : Int)))), some (.int (iI _)), v6] []
  refine g_aload_n (pc := 659) (q := 2) (i := 2) cx rfl rfl dL_law_659 ?_
  refine g_aload_n (pc := 660) (q := 0) (i := 0) cx rfl rfl dL_law_660 ?_
  refine g_iload (pc := 661) (i := 4) cx rfl dL_law_661 ?_
  refine z_iconst (pc := 663) cx dL_law_663 ?_
  refine z_iadd (pc := 664) cx dL_law_664 ?_
  refine g_scr (pc := 665) cx hX hL (by omega) dL_law_665 ?_
  refine g_callV (pc := 666) (As := [.int (iI (xs (7 * (j : Int) + 1).toNat).toInt)]) (rest := []) cx lk_L_116 (gM_fr (c_X7_unblock hm (t32 _) (by rw [hs2.2.1]; exact hs2.1) (fun i a b => (hrg i a b).2.2)) hd1.symm) (uni_l hm.1) rfl gy_X7_unblock ⟨⟨by decide, by decide⟩, by show K + 1 + 0 ≤ 807546; omega, by show N + 6 + 0 ≤ 6673467; omega⟩ rfl (Nat.le_of_ble_eq_true rfl) rfl dL_law_666 (fun E σ9 hX9 => ?_) (fun v9 σ9 hX9 => ?_)
  · obtain ⟨_, h9, _⟩ := hX9; exact h9.elim
  obtain ⟨σ2a, ⟨rfl, hm1, _⟩, rfl, hd2⟩ := hX9
  show G Γ _ (K + 1) (N + 6) 669 _ (.int (iI _) :: _)
  refine g_istore (pc := 669) (i := 6) cx (by simp) dL_law_669 ?_
  show G Γ _ _ _ 671 [some (.ref b), some (.ref x), some (.ref h), some (.ref o), some (.int (iI (7 * (j : Int)))), some (.int (iI _)), some (.int (iI _))] []
  refine g_aload_n (pc := 671) (q := 2) (i := 2) cx rfl rfl dL_law_671 ?_
  refine g_callV (pc := 672) (As := []) (rest := []) cx lk_L_76 (gM_fr (c_X7_thrown hm1) hd2) (uni_l hm1.1) rfl gy_X7_thrown ⟨⟨by decide, by decide⟩, by show K + 1 + 0 ≤ 807546; omega, by show N + 6 + 0 ≤ 6673467; omega⟩ rfl (Nat.le_of_ble_eq_true rfl) rfl dL_law_672 (fun E σ9 hX9 => ?_) (fun v9 σ9 hX9 => ?_)
  · obtain ⟨_, h9, _⟩ := hX9; exact h9.elim
  obtain ⟨σ2b, ⟨rfl, hm2, _⟩, rfl, hd3⟩ := hX9
  show G Γ _ (K + 1) (N + 6) 675 _ (.int (iI _) :: _)
  refine g_iload (pc := 675) (i := 5) cx rfl dL_law_675 ?_
  refine z_icmp_eq (pc := 677) (tgt := 682) cx ⟨by omega, by omega⟩ (by decide) dL_law_677 (fun _ => ?_) (fun c9 => absurd rfl c9)
  refine g_iload (pc := 682) (i := 5) cx rfl dL_law_682 ?_
  refine z_if_ne (pc := 684) (tgt := 706) cx (by omega) (by decide) dL_law_684 (fun cz => ?_) (fun cz => ?_)
  · skip
    refine g_goto (pc := 706) (tgt := 1060) cx (by decide) dL_law_706 ?_
    refine g_widen (k := K + 30) (n := N + 120) (by omega) (by omega) ?_
    exact hk _ _ _ ⟨σb, σ2b, f1, _, uni_comm hd3, ho1, hd3.symm, hw1, hm2⟩
  · skip
    refine g_aload_n (pc := 687) (q := 3) (i := 3) cx rfl rfl dL_law_687 ?_
    refine z_iconst (pc := 688) cx dL_law_688 ?_
    refine g_lald (pc := 689) (N := 1) (f := f1) cx (uni_r hd3 (by rw [uni_n ho1, one_s])) (iI_in (by decide) (by decide)) dL_law_689 ?_
    rw [show f1 (iI 0).toNatClampNeg = f1 0 by rw [iI_cl (by decide)]; rfl, hf1 cz]
    refine g_iload (pc := 690) (i := 6) cx rfl dL_law_690 ?_
    refine z_if_eq (pc := 692) (tgt := 699) cx (by have := bz_r (unbB S (xs (7 * (j : Int) + 1).toNat).toInt); omega) (by decide) dL_law_692 (fun cb => ?_) (fun cb => ?_)
    · skip
      refine g_lconst (pc := 699) (v := 0) cx (by decide) dL_law_699 ?_
      rw [cb]
      refine g_lcmp (pc := 700) cx dL_law_700 ?_
      rw [lg_00]
      refine z_if_eq (pc := 701) (tgt := 706) cx (by decide) (by decide) dL_law_701 (fun _ => ?_) (fun c9 => absurd rfl c9)
      refine g_goto (pc := 706) (tgt := 1060) cx (by decide) dL_law_706 ?_
      refine g_widen (k := K + 30) (n := N + 120) (by omega) (by omega) ?_
      exact hk _ _ _ ⟨σb, σ2b, f1, _, uni_comm hd3, ho1, hd3.symm, hw1, hm2⟩
    · skip
      have cb1 : bz (unbB S (xs (7 * (j : Int) + 1).toNat).toInt) = 1 := by have := bz_r (unbB S (xs (7 * (j : Int) + 1).toNat).toInt); omega
      refine g_lconst (pc := 695) (v := 1) cx (by decide) dL_law_695 ?_
      refine g_goto (pc := 696) (tgt := 700) cx (by decide) dL_law_696 ?_
      rw [cb1]
      refine g_lcmp (pc := 700) cx dL_law_700 ?_
      rw [lg_11]
      refine z_if_eq (pc := 701) (tgt := 706) cx (by decide) (by decide) dL_law_701 (fun _ => ?_) (fun c9 => absurd rfl c9)
      refine g_goto (pc := 706) (tgt := 1060) cx (by decide) dL_law_706 ?_
      refine g_widen (k := K + 30) (n := N + 120) (by omega) (by omega) ?_
      exact hk _ _ _ ⟨σb, σ2b, f1, _, uni_comm hd3, ho1, hd3.symm, hw1, hm2⟩
set_option maxRecDepth 100000 in
set_option maxHeartbeats 4000000 in
theorem lc_cut {lc : Launch} {Γ : gC} {cd ad : Nat → Nat} {b L x h o j K N : Nat} {xs : Nat → Int32} {σ : hS} {tm : Int} {v5 v6 : Option Value} (cx : CX lc Γ cL_law RL 7 room_1) (hX : LXt Γ b L xs) (hL : L ≤ 3584) (hst : lc.stackTraces = false) (hx : x = cd 0) (hj : 7 * j + 7 ≤ L) (htm : tm ≤ 900000) (hK : K + 30 ≤ 807546) (hN : N + 120 ≤ 6673467) (hw : LI (gdA Γ) cd ad h o σ tm) (hk : ∀ σ2 u5 u6, LI (gdA Γ) cd ad h o σ2 (tm + 200) → G Γ σ2 (K + 30) (N + 120) 1060 [some (.ref b), some (.ref x), some (.ref h), some (.ref o), some (.int (iI (7 * (j : Int)))), u5, u6] []) : G Γ σ K N 709 [some (.ref b), some (.ref x), some (.ref h), some (.ref o), some (.int (iI (7 * (j : Int)))), v5, v6] [] := by
  obtain ⟨σ1, σ2, f, S, rfl, ho, hd, hws, hm⟩ := hw
  obtain ⟨C, R, n4, Q4, na, Qa, n, Q, -, hsm, -, hfr, -, -, hle⟩ := id hws
  have hFW : FW S := (w_facts hsm hfr (by omega)).2.2.2.2.2
  have hs0 := hsm.2.1
  have hs2 := hsm.1.2.1
  have hrg := hsm.1.2.2.2.2.1
  have hpr := hsm.1.2.2.2.2.2.1
  refine g_aload_n (pc := 709) (q := 1) (i := 1) cx rfl rfl dL_law_709 ?_
  refine g_aload_n (pc := 710) (q := 0) (i := 0) cx rfl rfl dL_law_710 ?_
  refine g_iload (pc := 711) (i := 4) cx rfl dL_law_711 ?_
  refine z_iconst (pc := 713) cx dL_law_713 ?_
  refine z_iadd (pc := 714) cx dL_law_714 ?_
  refine g_scr (pc := 715) cx hX hL (by omega) dL_law_715 ?_
  refine g_aload_n (pc := 716) (q := 0) (i := 0) cx rfl rfl dL_law_716 ?_
  refine g_iload (pc := 717) (i := 4) cx rfl dL_law_717 ?_
  refine z_iconst (pc := 719) cx dL_law_719 ?_
  refine z_iadd (pc := 720) cx dL_law_720 ?_
  refine g_scr (pc := 721) cx hX hL (by omega) dL_law_721 ?_
  refine z_if_eq (pc := 722) (tgt := 729) cx (t32 _) (by decide) dL_law_722 (fun cs => ?_) (fun cs => ?_)
  · skip
    refine z_iconst (pc := 729) cx dL_law_729 ?_
    refine g_aload_n (pc := 730) (q := 3) (i := 3) cx rfl rfl dL_law_730 ?_
    refine g_callSX (pc := 731) (As := [.ref x, .int (iI (xs (7 * (j : Int) + 1).toNat).toInt), .int (iI 0), .ref o]) (rest := []) cx lk_L_117 (gM_fr (w_cut hst hx hws htm ho (t32 _) (Or.inl rfl)) hd) gy_L_cut ⟨⟨by decide, by decide⟩, by show K + 1 ≤ 807546; omega, by show N + 6 ≤ 6673467; omega⟩ rfl (Nat.le_of_ble_eq_true rfl) rfl dL_law_731 (fun E σ9 hX9 => ?_) (fun v9 σ9 hX9 => ?_)
    · obtain ⟨_, h9, _⟩ := hX9; exact h9.elim
    obtain ⟨σa, ⟨rfl, σb, f1, rfl, ho1, hw1, hf1⟩, rfl, hd1⟩ := hX9
    have h00 : 0 ≤ (cutS S (xs (7 * (j : Int) + 1).toNat).toInt 0) 0 0 ∧ (cutS S (xs (7 * (j : Int) + 1).toNat).toInt 0) 0 0 ≤ 3 := by
      rw [(r_cut hFW.1.1).1]
      unfold thC
      (repeat' split) <;> omega
    show G Γ _ (K + 1) (N + 6) 734 _ (.int (iI _) :: _)
    rw [uni_comm hd1]
    refine g_istore (pc := 734) (i := 5) cx (by simp) dL_law_734 ?_
    show G Γ _ _ _ 736 [some (.ref b), some (.ref x), some (.ref h), some (.ref o), some (.int (iI (7 * (j : Int)))), some (.int (iI _)), v6] []
    refine g_aload_n (pc := 736) (q := 2) (i := 2) cx rfl rfl dL_law_736 ?_
    refine g_aload_n (pc := 737) (q := 0) (i := 0) cx rfl rfl dL_law_737 ?_
    refine g_iload (pc := 738) (i := 4) cx rfl dL_law_738 ?_
    refine z_iconst (pc := 740) cx dL_law_740 ?_
    refine z_iadd (pc := 741) cx dL_law_741 ?_
    refine g_scr (pc := 742) cx hX hL (by omega) dL_law_742 ?_
    refine g_aload_n (pc := 743) (q := 0) (i := 0) cx rfl rfl dL_law_743 ?_
    refine g_iload (pc := 744) (i := 4) cx rfl dL_law_744 ?_
    refine z_iconst (pc := 746) cx dL_law_746 ?_
    refine z_iadd (pc := 747) cx dL_law_747 ?_
    refine g_scr (pc := 748) cx hX hL (by omega) dL_law_748 ?_
    refine z_if_eq (pc := 749) (tgt := 756) cx (t32 _) (by decide) dL_law_749 (fun _ => ?_) (fun c2 => absurd cs c2)
    refine z_iconst (pc := 756) cx dL_law_756 ?_
    refine g_callV (pc := 757) (As := [.int (iI (xs (7 * (j : Int) + 1).toNat).toInt), .int (iI 0)]) (rest := []) cx lk_L_120 (gM_fr (c_X7_cut hm (t32 _) (Or.inl rfl) hFW) hd1.symm) (uni_l hm.1) rfl gy_X7_cut ⟨⟨by decide, by decide⟩, by show K + 1 + 0 ≤ 807546; omega, by show N + 6 + 0 ≤ 6673467; omega⟩ rfl (Nat.le_of_ble_eq_true rfl) rfl dL_law_757 (fun E σ9 hX9 => ?_) (fun v9 σ9 hX9 => ?_)
    · obtain ⟨_, h9, _⟩ := hX9; exact h9.elim
    obtain ⟨σ2a, ⟨rfl, hm1, _⟩, rfl, hd2⟩ := hX9
    show G Γ _ (K + 1) (N + 6) 760 _ (.int (iI _) :: _)
    refine g_istore (pc := 760) (i := 6) cx (by simp) dL_law_760 ?_
    show G Γ _ _ _ 762 [some (.ref b), some (.ref x), some (.ref h), some (.ref o), some (.int (iI (7 * (j : Int)))), some (.int (iI _)), some (.int (iI _))] []
    refine g_aload_n (pc := 762) (q := 2) (i := 2) cx rfl rfl dL_law_762 ?_
    refine g_callV (pc := 763) (As := []) (rest := []) cx lk_L_76 (gM_fr (c_X7_thrown hm1) hd2) (uni_l hm1.1) rfl gy_X7_thrown ⟨⟨by decide, by decide⟩, by show K + 1 + 0 ≤ 807546; omega, by show N + 6 + 0 ≤ 6673467; omega⟩ rfl (Nat.le_of_ble_eq_true rfl) rfl dL_law_763 (fun E σ9 hX9 => ?_) (fun v9 σ9 hX9 => ?_)
    · obtain ⟨_, h9, _⟩ := hX9; exact h9.elim
    obtain ⟨σ2b, ⟨rfl, hm2, _⟩, rfl, hd3⟩ := hX9
    show G Γ _ (K + 1) (N + 6) 766 _ (.int (iI _) :: _)
    refine g_iload (pc := 766) (i := 5) cx rfl dL_law_766 ?_
    refine z_icmp_eq (pc := 768) (tgt := 773) cx ⟨by omega, by omega⟩ (by decide) dL_law_768 (fun _ => ?_) (fun c9 => absurd rfl c9)
    refine g_iload (pc := 773) (i := 5) cx rfl dL_law_773 ?_
    refine z_if_ne (pc := 775) (tgt := 797) cx (by omega) (by decide) dL_law_775 (fun cz => ?_) (fun cz => ?_)
    · skip
      refine g_goto (pc := 797) (tgt := 1060) cx (by decide) dL_law_797 ?_
      refine g_widen (k := K + 30) (n := N + 120) (by omega) (by omega) ?_
      exact hk _ _ _ ⟨σb, σ2b, f1, _, uni_comm hd3, ho1, hd3.symm, hw1, hm2⟩
    · skip
      refine g_aload_n (pc := 778) (q := 3) (i := 3) cx rfl rfl dL_law_778 ?_
      refine z_iconst (pc := 779) cx dL_law_779 ?_
      refine g_lald (pc := 780) (N := 1) (f := f1) cx (uni_r hd3 (by rw [uni_n ho1, one_s])) (iI_in (by decide) (by decide)) dL_law_780 ?_
      rw [show f1 (iI 0).toNatClampNeg = f1 0 by rw [iI_cl (by decide)]; rfl, hf1 cz]
      refine g_iload (pc := 781) (i := 6) cx rfl dL_law_781 ?_
      refine z_if_eq (pc := 783) (tgt := 790) cx (by have := bz_r (cutB S (xs (7 * (j : Int) + 1).toNat).toInt 0); omega) (by decide) dL_law_783 (fun cb => ?_) (fun cb => ?_)
      · skip
        refine g_lconst (pc := 790) (v := 0) cx (by decide) dL_law_790 ?_
        rw [cb]
        refine g_lcmp (pc := 791) cx dL_law_791 ?_
        rw [lg_00]
        refine z_if_eq (pc := 792) (tgt := 797) cx (by decide) (by decide) dL_law_792 (fun _ => ?_) (fun c9 => absurd rfl c9)
        refine g_goto (pc := 797) (tgt := 1060) cx (by decide) dL_law_797 ?_
        refine g_widen (k := K + 30) (n := N + 120) (by omega) (by omega) ?_
        exact hk _ _ _ ⟨σb, σ2b, f1, _, uni_comm hd3, ho1, hd3.symm, hw1, hm2⟩
      · skip
        have cb1 : bz (cutB S (xs (7 * (j : Int) + 1).toNat).toInt 0) = 1 := by have := bz_r (cutB S (xs (7 * (j : Int) + 1).toNat).toInt 0); omega
        refine g_lconst (pc := 786) (v := 1) cx (by decide) dL_law_786 ?_
        refine g_goto (pc := 787) (tgt := 791) cx (by decide) dL_law_787 ?_
        rw [cb1]
        refine g_lcmp (pc := 791) cx dL_law_791 ?_
        rw [lg_11]
        refine z_if_eq (pc := 792) (tgt := 797) cx (by decide) (by decide) dL_law_792 (fun _ => ?_) (fun c9 => absurd rfl c9)
        refine g_goto (pc := 797) (tgt := 1060) cx (by decide) dL_law_797 ?_
        refine g_widen (k := K + 30) (n := N + 120) (by omega) (by omega) ?_
        exact hk _ _ _ ⟨σb, σ2b, f1, _, uni_comm hd3, ho1, hd3.symm, hw1, hm2⟩
  · skip
    refine z_iconst (pc := 725) cx dL_law_725 ?_
    refine g_goto (pc := 726) (tgt := 730) cx (by decide) dL_law_726 ?_
    refine g_aload_n (pc := 730) (q := 3) (i := 3) cx rfl rfl dL_law_730 ?_
    refine g_callSX (pc := 731) (As := [.ref x, .int (iI (xs (7 * (j : Int) + 1).toNat).toInt), .int (iI 1), .ref o]) (rest := []) cx lk_L_117 (gM_fr (w_cut hst hx hws htm ho (t32 _) (Or.inr rfl)) hd) gy_L_cut ⟨⟨by decide, by decide⟩, by show K + 1 ≤ 807546; omega, by show N + 6 ≤ 6673467; omega⟩ rfl (Nat.le_of_ble_eq_true rfl) rfl dL_law_731 (fun E σ9 hX9 => ?_) (fun v9 σ9 hX9 => ?_)
    · obtain ⟨_, h9, _⟩ := hX9; exact h9.elim
    obtain ⟨σa, ⟨rfl, σb, f1, rfl, ho1, hw1, hf1⟩, rfl, hd1⟩ := hX9
    have h00 : 0 ≤ (cutS S (xs (7 * (j : Int) + 1).toNat).toInt 1) 0 0 ∧ (cutS S (xs (7 * (j : Int) + 1).toNat).toInt 1) 0 0 ≤ 3 := by
      rw [(r_cut hFW.1.1).1]
      unfold thC
      (repeat' split) <;> omega
    show G Γ _ (K + 1) (N + 6) 734 _ (.int (iI _) :: _)
    rw [uni_comm hd1]
    refine g_istore (pc := 734) (i := 5) cx (by simp) dL_law_734 ?_
    show G Γ _ _ _ 736 [some (.ref b), some (.ref x), some (.ref h), some (.ref o), some (.int (iI (7 * (j : Int)))), some (.int (iI _)), v6] []
    refine g_aload_n (pc := 736) (q := 2) (i := 2) cx rfl rfl dL_law_736 ?_
    refine g_aload_n (pc := 737) (q := 0) (i := 0) cx rfl rfl dL_law_737 ?_
    refine g_iload (pc := 738) (i := 4) cx rfl dL_law_738 ?_
    refine z_iconst (pc := 740) cx dL_law_740 ?_
    refine z_iadd (pc := 741) cx dL_law_741 ?_
    refine g_scr (pc := 742) cx hX hL (by omega) dL_law_742 ?_
    refine g_aload_n (pc := 743) (q := 0) (i := 0) cx rfl rfl dL_law_743 ?_
    refine g_iload (pc := 744) (i := 4) cx rfl dL_law_744 ?_
    refine z_iconst (pc := 746) cx dL_law_746 ?_
    refine z_iadd (pc := 747) cx dL_law_747 ?_
    refine g_scr (pc := 748) cx hX hL (by omega) dL_law_748 ?_
    refine z_if_eq (pc := 749) (tgt := 756) cx (t32 _) (by decide) dL_law_749 (fun c2 => absurd c2 cs) (fun _ => ?_)
    refine z_iconst (pc := 752) cx dL_law_752 ?_
    refine g_goto (pc := 753) (tgt := 757) cx (by decide) dL_law_753 ?_
    refine g_callV (pc := 757) (As := [.int (iI (xs (7 * (j : Int) + 1).toNat).toInt), .int (iI 1)]) (rest := []) cx lk_L_120 (gM_fr (c_X7_cut hm (t32 _) (Or.inr rfl) hFW) hd1.symm) (uni_l hm.1) rfl gy_X7_cut ⟨⟨by decide, by decide⟩, by show K + 1 + 0 ≤ 807546; omega, by show N + 6 + 0 ≤ 6673467; omega⟩ rfl (Nat.le_of_ble_eq_true rfl) rfl dL_law_757 (fun E σ9 hX9 => ?_) (fun v9 σ9 hX9 => ?_)
    · obtain ⟨_, h9, _⟩ := hX9; exact h9.elim
    obtain ⟨σ2a, ⟨rfl, hm1, _⟩, rfl, hd2⟩ := hX9
    show G Γ _ (K + 1) (N + 6) 760 _ (.int (iI _) :: _)
    refine g_istore (pc := 760) (i := 6) cx (by simp) dL_law_760 ?_
    show G Γ _ _ _ 762 [some (.ref b), some (.ref x), some (.ref h), some (.ref o), some (.int (iI (7 * (j : Int)))), some (.int (iI _)), some (.int (iI _))] []
    refine g_aload_n (pc := 762) (q := 2) (i := 2) cx rfl rfl dL_law_762 ?_
    refine g_callV (pc := 763) (As := []) (rest := []) cx lk_L_76 (gM_fr (c_X7_thrown hm1) hd2) (uni_l hm1.1) rfl gy_X7_thrown ⟨⟨by decide, by decide⟩, by show K + 1 + 0 ≤ 807546; omega, by show N + 6 + 0 ≤ 6673467; omega⟩ rfl (Nat.le_of_ble_eq_true rfl) rfl dL_law_763 (fun E σ9 hX9 => ?_) (fun v9 σ9 hX9 => ?_)
    · obtain ⟨_, h9, _⟩ := hX9; exact h9.elim
    obtain ⟨σ2b, ⟨rfl, hm2, _⟩, rfl, hd3⟩ := hX9
    show G Γ _ (K + 1) (N + 6) 766 _ (.int (iI _) :: _)
    refine g_iload (pc := 766) (i := 5) cx rfl dL_law_766 ?_
    refine z_icmp_eq (pc := 768) (tgt := 773) cx ⟨by omega, by omega⟩ (by decide) dL_law_768 (fun _ => ?_) (fun c9 => absurd rfl c9)
    refine g_iload (pc := 773) (i := 5) cx rfl dL_law_773 ?_
    refine z_if_ne (pc := 775) (tgt := 797) cx (by omega) (by decide) dL_law_775 (fun cz => ?_) (fun cz => ?_)
    · skip
      refine g_goto (pc := 797) (tgt := 1060) cx (by decide) dL_law_797 ?_
      refine g_widen (k := K + 30) (n := N + 120) (by omega) (by omega) ?_
      exact hk _ _ _ ⟨σb, σ2b, f1, _, uni_comm hd3, ho1, hd3.symm, hw1, hm2⟩
    · skip
      refine g_aload_n (pc := 778) (q := 3) (i := 3) cx rfl rfl dL_law_778 ?_
      refine z_iconst (pc := 779) cx dL_law_779 ?_
      refine g_lald (pc := 780) (N := 1) (f := f1) cx (uni_r hd3 (by rw [uni_n ho1, one_s])) (iI_in (by decide) (by decide)) dL_law_780 ?_
      rw [show f1 (iI 0).toNatClampNeg = f1 0 by rw [iI_cl (by decide)]; rfl, hf1 cz]
      refine g_iload (pc := 781) (i := 6) cx rfl dL_law_781 ?_
      refine z_if_eq (pc := 783) (tgt := 790) cx (by have := bz_r (cutB S (xs (7 * (j : Int) + 1).toNat).toInt 1); omega) (by decide) dL_law_783 (fun cb => ?_) (fun cb => ?_)
      · skip
        refine g_lconst (pc := 790) (v := 0) cx (by decide) dL_law_790 ?_
        rw [cb]
        refine g_lcmp (pc := 791) cx dL_law_791 ?_
        rw [lg_00]
        refine z_if_eq (pc := 792) (tgt := 797) cx (by decide) (by decide) dL_law_792 (fun _ => ?_) (fun c9 => absurd rfl c9)
        refine g_goto (pc := 797) (tgt := 1060) cx (by decide) dL_law_797 ?_
        refine g_widen (k := K + 30) (n := N + 120) (by omega) (by omega) ?_
        exact hk _ _ _ ⟨σb, σ2b, f1, _, uni_comm hd3, ho1, hd3.symm, hw1, hm2⟩
      · skip
        have cb1 : bz (cutB S (xs (7 * (j : Int) + 1).toNat).toInt 1) = 1 := by have := bz_r (cutB S (xs (7 * (j : Int) + 1).toNat).toInt 1); omega
        refine g_lconst (pc := 786) (v := 1) cx (by decide) dL_law_786 ?_
        refine g_goto (pc := 787) (tgt := 791) cx (by decide) dL_law_787 ?_
        rw [cb1]
        refine g_lcmp (pc := 791) cx dL_law_791 ?_
        rw [lg_11]
        refine z_if_eq (pc := 792) (tgt := 797) cx (by decide) (by decide) dL_law_792 (fun _ => ?_) (fun c9 => absurd rfl c9)
        refine g_goto (pc := 797) (tgt := 1060) cx (by decide) dL_law_797 ?_
        refine g_widen (k := K + 30) (n := N + 120) (by omega) (by omega) ?_
        exact hk _ _ _ ⟨σb, σ2b, f1, _, uni_comm hd3, ho1, hd3.symm, hw1, hm2⟩
set_option maxRecDepth 100000 in
set_option maxHeartbeats 4000000 in
theorem lc_babble {lc : Launch} {Γ : gC} {cd ad : Nat → Nat} {b L x h o j K N : Nat} {xs : Nat → Int32} {σ : hS} {tm : Int} {v5 v6 : Option Value} (cx : CX lc Γ cL_law RL 7 room_1) (hX : LXt Γ b L xs) (hL : L ≤ 3584) (hst : lc.stackTraces = false) (hx : x = cd 0) (hj : 7 * j + 7 ≤ L) (htm : tm ≤ 900000) (hK : K + 30 ≤ 807546) (hN : N + 120 ≤ 6673467) (hw : LI (gdA Γ) cd ad h o σ tm) (hk : ∀ σ2 u5 u6, LI (gdA Γ) cd ad h o σ2 (tm + 200) → G Γ σ2 (K + 30) (N + 120) 1060 [some (.ref b), some (.ref x), some (.ref h), some (.ref o), some (.int (iI (7 * (j : Int)))), u5, u6] []) : G Γ σ K N 800 [some (.ref b), some (.ref x), some (.ref h), some (.ref o), some (.int (iI (7 * (j : Int)))), v5, v6] [] := by
  obtain ⟨σ1, σ2, f, S, rfl, ho, hd, hws, hm⟩ := hw
  obtain ⟨C, R, n4, Q4, na, Qa, n, Q, -, hsm, -, hfr, -, -, hle⟩ := id hws
  have hFW : FW S := (w_facts hsm hfr (by omega)).2.2.2.2.2
  have hs0 := hsm.2.1
  have hs2 := hsm.1.2.1
  have hrg := hsm.1.2.2.2.2.1
  have hpr := hsm.1.2.2.2.2.2.1
  refine g_aload_n (pc := 800) (q := 1) (i := 1) cx rfl rfl dL_law_800 ?_
  refine g_aload_n (pc := 801) (q := 0) (i := 0) cx rfl rfl dL_law_801 ?_
  refine g_iload (pc := 802) (i := 4) cx rfl dL_law_802 ?_
  refine z_iconst (pc := 804) cx dL_law_804 ?_
  refine z_iadd (pc := 805) cx dL_law_805 ?_
  refine g_scr (pc := 806) cx hX hL (by omega) dL_law_806 ?_
  refine g_aload_n (pc := 807) (q := 0) (i := 0) cx rfl rfl dL_law_807 ?_
  refine g_iload (pc := 808) (i := 4) cx rfl dL_law_808 ?_
  refine z_iconst (pc := 810) cx dL_law_810 ?_
  refine z_iadd (pc := 811) cx dL_law_811 ?_
  refine g_scr (pc := 812) cx hX hL (by omega) dL_law_812 ?_
  refine g_aload_n (pc := 813) (q := 3) (i := 3) cx rfl rfl dL_law_813 ?_
  refine g_callSX (pc := 814) (As := [.ref x, .int (iI (xs (7 * (j : Int) + 1).toNat).toInt), .int (iI (xs (7 * (j : Int) + 2).toNat).toInt), .ref o]) (rest := []) cx lk_L_121 (gM_fr (w_babble hst hx hws htm ho (t32 _) (t32 _)) hd) gy_L_babble ⟨⟨by decide, by decide⟩, by show K + 3 ≤ 807546; omega, by show N + 18 ≤ 6673467; omega⟩ rfl (Nat.le_of_ble_eq_true rfl) rfl dL_law_814 (fun E σ9 hX9 => ?_) (fun v9 σ9 hX9 => ?_)
  · obtain ⟨_, h9, _⟩ := hX9; exact h9.elim
  obtain ⟨σa, ⟨rfl, σb, f1, rfl, ho1, hw1, hf1⟩, rfl, hd1⟩ := hX9
  have h00 : 0 ≤ (babS S (xs (7 * (j : Int) + 1).toNat).toInt (xs (7 * (j : Int) + 2).toNat).toInt) 0 0 ∧ (babS S (xs (7 * (j : Int) + 1).toNat).toInt (xs (7 * (j : Int) + 2).toNat).toInt) 0 0 ≤ 3 := by
    rw [r_bab.1]
    unfold thB
    (repeat' split) <;> omega
  show G Γ _ (K + 3) (N + 18) 817 _ (.int (iI _) :: _)
  rw [uni_comm hd1]
  refine g_istore (pc := 817) (i := 5) cx (by simp) dL_law_817 ?_
  show G Γ _ _ _ 819 [some (.ref b), some (.ref x), some (.ref h), some (.ref o), some (.int (iI (7 * (j : Int)))), some (.int (iI _)), v6] []
  refine g_aload_n (pc := 819) (q := 2) (i := 2) cx rfl rfl dL_law_819 ?_
  refine g_aload_n (pc := 820) (q := 0) (i := 0) cx rfl rfl dL_law_820 ?_
  refine g_iload (pc := 821) (i := 4) cx rfl dL_law_821 ?_
  refine z_iconst (pc := 823) cx dL_law_823 ?_
  refine z_iadd (pc := 824) cx dL_law_824 ?_
  refine g_scr (pc := 825) cx hX hL (by omega) dL_law_825 ?_
  refine g_aload_n (pc := 826) (q := 0) (i := 0) cx rfl rfl dL_law_826 ?_
  refine g_iload (pc := 827) (i := 4) cx rfl dL_law_827 ?_
  refine z_iconst (pc := 829) cx dL_law_829 ?_
  refine z_iadd (pc := 830) cx dL_law_830 ?_
  refine g_scr (pc := 831) cx hX hL (by omega) dL_law_831 ?_
  refine g_callV (pc := 832) (As := [.int (iI (xs (7 * (j : Int) + 1).toNat).toInt), .int (iI (xs (7 * (j : Int) + 2).toNat).toInt)]) (rest := []) cx lk_L_123 (gM_fr (c_X7_babble hm (t32 _) (t32 _) (fun l a b => by obtain ⟨m, rfl⟩ : ∃ m : Nat, l = (m : Int) := ⟨l.toNat, by omega⟩; exact (hpr m (by omega)).2.1.2.1)) hd1.symm) (uni_l hm.1) rfl gy_X7_babble ⟨⟨by decide, by decide⟩, by show K + 3 + 0 ≤ 807546; omega, by show N + 18 + 0 ≤ 6673467; omega⟩ rfl (Nat.le_of_ble_eq_true rfl) rfl dL_law_832 (fun E σ9 hX9 => ?_) (fun v9 σ9 hX9 => ?_)
  · obtain ⟨_, h9, _⟩ := hX9; exact h9.elim
  obtain ⟨σ2a, ⟨rfl, hm1, _⟩, rfl, hd2⟩ := hX9
  show G Γ _ (K + 3) (N + 18) 835 _ (.int (iI _) :: _)
  refine g_istore (pc := 835) (i := 6) cx (by simp) dL_law_835 ?_
  show G Γ _ _ _ 837 [some (.ref b), some (.ref x), some (.ref h), some (.ref o), some (.int (iI (7 * (j : Int)))), some (.int (iI _)), some (.int (iI _))] []
  refine g_aload_n (pc := 837) (q := 2) (i := 2) cx rfl rfl dL_law_837 ?_
  refine g_callV (pc := 838) (As := []) (rest := []) cx lk_L_76 (gM_fr (c_X7_thrown hm1) hd2) (uni_l hm1.1) rfl gy_X7_thrown ⟨⟨by decide, by decide⟩, by show K + 3 + 0 ≤ 807546; omega, by show N + 18 + 0 ≤ 6673467; omega⟩ rfl (Nat.le_of_ble_eq_true rfl) rfl dL_law_838 (fun E σ9 hX9 => ?_) (fun v9 σ9 hX9 => ?_)
  · obtain ⟨_, h9, _⟩ := hX9; exact h9.elim
  obtain ⟨σ2b, ⟨rfl, hm2, _⟩, rfl, hd3⟩ := hX9
  show G Γ _ (K + 3) (N + 18) 841 _ (.int (iI _) :: _)
  refine g_iload (pc := 841) (i := 5) cx rfl dL_law_841 ?_
  refine z_icmp_eq (pc := 843) (tgt := 848) cx ⟨by omega, by omega⟩ (by decide) dL_law_843 (fun _ => ?_) (fun c9 => absurd rfl c9)
  refine g_iload (pc := 848) (i := 5) cx rfl dL_law_848 ?_
  refine z_if_ne (pc := 850) (tgt := 865) cx (by omega) (by decide) dL_law_850 (fun cz => ?_) (fun cz => ?_)
  · skip
    refine g_goto (pc := 865) (tgt := 1060) cx (by decide) dL_law_865 ?_
    refine g_widen (k := K + 30) (n := N + 120) (by omega) (by omega) ?_
    exact hk _ _ _ ⟨σb, σ2b, f1, _, uni_comm hd3, ho1, hd3.symm, hw1, hm2⟩
  · skip
    refine g_aload_n (pc := 853) (q := 3) (i := 3) cx rfl rfl dL_law_853 ?_
    refine z_iconst (pc := 854) cx dL_law_854 ?_
    refine g_lald (pc := 855) (N := 1) (f := f1) cx (uni_r hd3 (by rw [uni_n ho1, one_s])) (iI_in (by decide) (by decide)) dL_law_855 ?_
    rw [show f1 (iI 0).toNatClampNeg = f1 0 by rw [iI_cl (by decide)]; rfl, hf1 cz]
    refine g_iload (pc := 856) (i := 6) cx rfl dL_law_856 ?_
    refine g_i2l (pc := 858) cx dL_law_858 ?_
    refine g_lcmp (pc := 859) cx dL_law_859 ?_
    rw [lg_self]
    refine z_if_eq (pc := 860) (tgt := 865) cx (by decide) (by decide) dL_law_860 (fun _ => ?_) (fun c9 => absurd rfl c9)
    refine g_goto (pc := 865) (tgt := 1060) cx (by decide) dL_law_865 ?_
    refine g_widen (k := K + 30) (n := N + 120) (by omega) (by omega) ?_
    exact hk _ _ _ ⟨σb, σ2b, f1, _, uni_comm hd3, ho1, hd3.symm, hw1, hm2⟩
set_option maxRecDepth 100000 in
set_option maxHeartbeats 4000000 in
theorem lc_told {lc : Launch} {Γ : gC} {cd ad : Nat → Nat} {b L x h o j K N : Nat} {xs : Nat → Int32} {σ : hS} {tm : Int} {v5 v6 : Option Value} (cx : CX lc Γ cL_law RL 7 room_1) (hX : LXt Γ b L xs) (hL : L ≤ 3584) (hst : lc.stackTraces = false) (hx : x = cd 0) (hj : 7 * j + 7 ≤ L) (htm : tm ≤ 900000) (hK : K + 30 ≤ 807546) (hN : N + 120 ≤ 6673467) (hw : LI (gdA Γ) cd ad h o σ tm) (hk : ∀ σ2 u5 u6, LI (gdA Γ) cd ad h o σ2 (tm + 200) → G Γ σ2 (K + 30) (N + 120) 1060 [some (.ref b), some (.ref x), some (.ref h), some (.ref o), some (.int (iI (7 * (j : Int)))), u5, u6] []) : G Γ σ K N 868 [some (.ref b), some (.ref x), some (.ref h), some (.ref o), some (.int (iI (7 * (j : Int)))), v5, v6] [] := by
  obtain ⟨σ1, σ2, f, S, rfl, ho, hd, hws, hm⟩ := hw
  obtain ⟨C, R, n4, Q4, na, Qa, n, Q, -, hsm, -, hfr, -, -, hle⟩ := id hws
  have hFW : FW S := (w_facts hsm hfr (by omega)).2.2.2.2.2
  have hs0 := hsm.2.1
  have hs2 := hsm.1.2.1
  have hrg := hsm.1.2.2.2.2.1
  have hpr := hsm.1.2.2.2.2.2.1
  refine g_aload_n (pc := 868) (q := 1) (i := 1) cx rfl rfl dL_law_868 ?_
  refine g_aload_n (pc := 869) (q := 0) (i := 0) cx rfl rfl dL_law_869 ?_
  refine g_iload (pc := 870) (i := 4) cx rfl dL_law_870 ?_
  refine z_iconst (pc := 872) cx dL_law_872 ?_
  refine z_iadd (pc := 873) cx dL_law_873 ?_
  refine g_scr (pc := 874) cx hX hL (by omega) dL_law_874 ?_
  refine g_aload_n (pc := 875) (q := 0) (i := 0) cx rfl rfl dL_law_875 ?_
  refine g_iload (pc := 876) (i := 4) cx rfl dL_law_876 ?_
  refine z_iconst (pc := 878) cx dL_law_878 ?_
  refine z_iadd (pc := 879) cx dL_law_879 ?_
  refine g_scr (pc := 880) cx hX hL (by omega) dL_law_880 ?_
  refine g_aload_n (pc := 881) (q := 3) (i := 3) cx rfl rfl dL_law_881 ?_
  refine g_callSX (pc := 882) (As := [.ref x, .int (iI (xs (7 * (j : Int) + 1).toNat).toInt), .int (iI (xs (7 * (j : Int) + 2).toNat).toInt), .ref o]) (rest := []) cx lk_L_124 (gM_fr (w_told hst hx hws ho (t32 _) (t32 _)) hd) gy_L_told ⟨⟨by decide, by decide⟩, by show K + 2 ≤ 807546; omega, by show N + 12 ≤ 6673467; omega⟩ rfl (Nat.le_of_ble_eq_true rfl) rfl dL_law_882 (fun E σ9 hX9 => ?_) (fun v9 σ9 hX9 => ?_)
  · obtain ⟨_, h9, _⟩ := hX9; exact h9.elim
  obtain ⟨σa, ⟨rfl, σb, f1, rfl, ho1, hw1, hf1⟩, rfl, hd1⟩ := hX9
  have h00 : 0 ≤ (mw S 0 0 (thTo S (xs (7 * (j : Int) + 1).toNat).toInt (xs (7 * (j : Int) + 2).toNat).toInt)) 0 0 ∧ (mw S 0 0 (thTo S (xs (7 * (j : Int) + 1).toNat).toInt (xs (7 * (j : Int) + 2).toNat).toInt)) 0 0 ≤ 3 := by
    rw [mw_s]
    unfold thTo
    (repeat' split) <;> omega
  show G Γ _ (K + 2) (N + 12) 885 _ (.int (iI _) :: _)
  rw [uni_comm hd1]
  refine g_istore (pc := 885) (i := 5) cx (by simp) dL_law_885 ?_
  show G Γ _ _ _ 887 [some (.ref b), some (.ref x), some (.ref h), some (.ref o), some (.int (iI (7 * (j : Int)))), some (.int (iI _)), v6] []
  refine g_aload_n (pc := 887) (q := 2) (i := 2) cx rfl rfl dL_law_887 ?_
  refine g_aload_n (pc := 888) (q := 0) (i := 0) cx rfl rfl dL_law_888 ?_
  refine g_iload (pc := 889) (i := 4) cx rfl dL_law_889 ?_
  refine z_iconst (pc := 891) cx dL_law_891 ?_
  refine z_iadd (pc := 892) cx dL_law_892 ?_
  refine g_scr (pc := 893) cx hX hL (by omega) dL_law_893 ?_
  refine g_aload_n (pc := 894) (q := 0) (i := 0) cx rfl rfl dL_law_894 ?_
  refine g_iload (pc := 895) (i := 4) cx rfl dL_law_895 ?_
  refine z_iconst (pc := 897) cx dL_law_897 ?_
  refine z_iadd (pc := 898) cx dL_law_898 ?_
  refine g_scr (pc := 899) cx hX hL (by omega) dL_law_899 ?_
  refine g_callV (pc := 900) (As := [.int (iI (xs (7 * (j : Int) + 1).toNat).toInt), .int (iI (xs (7 * (j : Int) + 2).toNat).toInt)]) (rest := []) cx lk_L_126 (gM_fr (c_X7_told hm (t32 _) (t32 _) (by rw [hs2.2.1]; exact hs2.1) hFW.1 (fun f a b => (hFW.2.1 f a b).2.1) (fun i a b => (hrg i a b).2.2)) hd1.symm) (uni_l hm.1) rfl gy_X7_told ⟨⟨by decide, by decide⟩, by show K + 2 + 0 ≤ 807546; omega, by show N + 12 + 0 ≤ 6673467; omega⟩ rfl (Nat.le_of_ble_eq_true rfl) rfl dL_law_900 (fun E σ9 hX9 => ?_) (fun v9 σ9 hX9 => ?_)
  · obtain ⟨_, h9, _⟩ := hX9; exact h9.elim
  obtain ⟨σ2a, ⟨rfl, hm1, _⟩, rfl, hd2⟩ := hX9
  show G Γ _ (K + 2) (N + 12) 903 _ (.int (iI _) :: _)
  refine g_istore (pc := 903) (i := 6) cx (by simp) dL_law_903 ?_
  show G Γ _ _ _ 905 [some (.ref b), some (.ref x), some (.ref h), some (.ref o), some (.int (iI (7 * (j : Int)))), some (.int (iI _)), some (.int (iI _))] []
  refine g_aload_n (pc := 905) (q := 2) (i := 2) cx rfl rfl dL_law_905 ?_
  refine g_callV (pc := 906) (As := []) (rest := []) cx lk_L_76 (gM_fr (c_X7_thrown hm1) hd2) (uni_l hm1.1) rfl gy_X7_thrown ⟨⟨by decide, by decide⟩, by show K + 2 + 0 ≤ 807546; omega, by show N + 12 + 0 ≤ 6673467; omega⟩ rfl (Nat.le_of_ble_eq_true rfl) rfl dL_law_906 (fun E σ9 hX9 => ?_) (fun v9 σ9 hX9 => ?_)
  · obtain ⟨_, h9, _⟩ := hX9; exact h9.elim
  obtain ⟨σ2b, ⟨rfl, hm2, _⟩, rfl, hd3⟩ := hX9
  show G Γ _ (K + 2) (N + 12) 909 _ (.int (iI _) :: _)
  refine g_iload (pc := 909) (i := 5) cx rfl dL_law_909 ?_
  refine z_icmp_eq (pc := 911) (tgt := 916) cx ⟨by omega, by omega⟩ (by decide) dL_law_911 (fun _ => ?_) (fun c9 => absurd rfl c9)
  refine g_iload (pc := 916) (i := 5) cx rfl dL_law_916 ?_
  refine z_if_ne (pc := 918) (tgt := 933) cx (by omega) (by decide) dL_law_918 (fun cz => ?_) (fun cz => ?_)
  · skip
    refine g_goto (pc := 933) (tgt := 1060) cx (by decide) dL_law_933 ?_
    refine g_widen (k := K + 30) (n := N + 120) (by omega) (by omega) ?_
    exact hk _ _ _ ⟨σb, σ2b, f1, _, uni_comm hd3, ho1, hd3.symm, hw1, hm2⟩
  · skip
    refine g_aload_n (pc := 921) (q := 3) (i := 3) cx rfl rfl dL_law_921 ?_
    refine z_iconst (pc := 922) cx dL_law_922 ?_
    refine g_lald (pc := 923) (N := 1) (f := f1) cx (uni_r hd3 (by rw [uni_n ho1, one_s])) (iI_in (by decide) (by decide)) dL_law_923 ?_
    rw [show f1 (iI 0).toNatClampNeg = f1 0 by rw [iI_cl (by decide)]; rfl, hf1 cz]
    refine g_iload (pc := 924) (i := 6) cx rfl dL_law_924 ?_
    refine g_i2l (pc := 926) cx dL_law_926 ?_
    refine g_lcmp (pc := 927) cx dL_law_927 ?_
    rw [lg_self]
    refine z_if_eq (pc := 928) (tgt := 933) cx (by decide) (by decide) dL_law_928 (fun _ => ?_) (fun c9 => absurd rfl c9)
    refine g_goto (pc := 933) (tgt := 1060) cx (by decide) dL_law_933 ?_
    refine g_widen (k := K + 30) (n := N + 120) (by omega) (by omega) ?_
    exact hk _ _ _ ⟨σb, σ2b, f1, _, uni_comm hd3, ho1, hd3.symm, hw1, hm2⟩
set_option maxRecDepth 100000 in
set_option maxHeartbeats 4000000 in
theorem lc_link {lc : Launch} {Γ : gC} {cd ad : Nat → Nat} {b L x h o j K N : Nat} {xs : Nat → Int32} {σ : hS} {tm : Int} {v5 v6 : Option Value} (cx : CX lc Γ cL_law RL 7 room_1) (hX : LXt Γ b L xs) (hL : L ≤ 3584) (hst : lc.stackTraces = false) (hx : x = cd 0) (hj : 7 * j + 7 ≤ L) (htm : tm ≤ 900000) (hK : K + 30 ≤ 807546) (hN : N + 120 ≤ 6673467) (hw : LI (gdA Γ) cd ad h o σ tm) (hk : ∀ σ2 u5 u6, LI (gdA Γ) cd ad h o σ2 (tm + 200) → G Γ σ2 (K + 30) (N + 120) 1060 [some (.ref b), some (.ref x), some (.ref h), some (.ref o), some (.int (iI (7 * (j : Int)))), u5, u6] []) : G Γ σ K N 936 [some (.ref b), some (.ref x), some (.ref h), some (.ref o), some (.int (iI (7 * (j : Int)))), v5, v6] [] := by
  obtain ⟨σ1, σ2, f, S, rfl, ho, hd, hws, hm⟩ := hw
  obtain ⟨C, R, n4, Q4, na, Qa, n, Q, -, hsm, -, hfr, -, -, hle⟩ := id hws
  have hFW : FW S := (w_facts hsm hfr (by omega)).2.2.2.2.2
  have hs0 := hsm.2.1
  have hs2 := hsm.1.2.1
  have hrg := hsm.1.2.2.2.2.1
  have hpr := hsm.1.2.2.2.2.2.1
  refine g_aload_n (pc := 936) (q := 1) (i := 1) cx rfl rfl dL_law_936 ?_
  refine g_aload_n (pc := 937) (q := 0) (i := 0) cx rfl rfl dL_law_937 ?_
  refine g_iload (pc := 938) (i := 4) cx rfl dL_law_938 ?_
  refine z_iconst (pc := 940) cx dL_law_940 ?_
  refine z_iadd (pc := 941) cx dL_law_941 ?_
  refine g_scr (pc := 942) cx hX hL (by omega) dL_law_942 ?_
  refine g_aload_n (pc := 943) (q := 0) (i := 0) cx rfl rfl dL_law_943 ?_
  refine g_iload (pc := 944) (i := 4) cx rfl dL_law_944 ?_
  refine z_iconst (pc := 946) cx dL_law_946 ?_
  refine z_iadd (pc := 947) cx dL_law_947 ?_
  refine g_scr (pc := 948) cx hX hL (by omega) dL_law_948 ?_
  refine g_aload_n (pc := 949) (q := 3) (i := 3) cx rfl rfl dL_law_949 ?_
  refine g_callSX (pc := 950) (As := [.ref x, .int (iI (xs (7 * (j : Int) + 1).toNat).toInt), .int (iI (xs (7 * (j : Int) + 2).toNat).toInt), .ref o]) (rest := []) cx lk_L_127 (gM_fr (w_link hst hx hws htm ho (t32 _) (t32 _)) hd) gy_L_link ⟨⟨by decide, by decide⟩, by show K + 2 ≤ 807546; omega, by show N + 12 ≤ 6673467; omega⟩ rfl (Nat.le_of_ble_eq_true rfl) rfl dL_law_950 (fun E σ9 hX9 => ?_) (fun v9 σ9 hX9 => ?_)
  · obtain ⟨_, h9, _⟩ := hX9; exact h9.elim
  obtain ⟨σa, ⟨rfl, σb, f1, rfl, ho1, hw1, hf1⟩, rfl, hd1⟩ := hX9
  have h00 : 0 ≤ (mw S 0 0 (thL (xs (7 * (j : Int) + 1).toNat).toInt (xs (7 * (j : Int) + 2).toNat).toInt)) 0 0 ∧ (mw S 0 0 (thL (xs (7 * (j : Int) + 1).toNat).toInt (xs (7 * (j : Int) + 2).toNat).toInt)) 0 0 ≤ 3 := by
    rw [mw_s]
    unfold thL
    (repeat' split) <;> omega
  show G Γ _ (K + 2) (N + 12) 953 _ (.int (iI _) :: _)
  rw [uni_comm hd1]
  refine g_istore (pc := 953) (i := 5) cx (by simp) dL_law_953 ?_
  show G Γ _ _ _ 955 [some (.ref b), some (.ref x), some (.ref h), some (.ref o), some (.int (iI (7 * (j : Int)))), some (.int (iI _)), v6] []
  refine g_aload_n (pc := 955) (q := 2) (i := 2) cx rfl rfl dL_law_955 ?_
  refine g_aload_n (pc := 956) (q := 0) (i := 0) cx rfl rfl dL_law_956 ?_
  refine g_iload (pc := 957) (i := 4) cx rfl dL_law_957 ?_
  refine z_iconst (pc := 959) cx dL_law_959 ?_
  refine z_iadd (pc := 960) cx dL_law_960 ?_
  refine g_scr (pc := 961) cx hX hL (by omega) dL_law_961 ?_
  refine g_aload_n (pc := 962) (q := 0) (i := 0) cx rfl rfl dL_law_962 ?_
  refine g_iload (pc := 963) (i := 4) cx rfl dL_law_963 ?_
  refine z_iconst (pc := 965) cx dL_law_965 ?_
  refine z_iadd (pc := 966) cx dL_law_966 ?_
  refine g_scr (pc := 967) cx hX hL (by omega) dL_law_967 ?_
  refine g_callV (pc := 968) (As := [.int (iI (xs (7 * (j : Int) + 1).toNat).toInt), .int (iI (xs (7 * (j : Int) + 2).toNat).toInt)]) (rest := []) cx lk_L_129 (gM_fr (c_X7_link hm (t32 _) (t32 _) hFW.1 hFW.2.1 hFW.2.2.1 (fun l a b => ⟨by obtain ⟨m, rfl⟩ : ∃ m : Nat, l = (m : Int) := ⟨l.toNat, by omega⟩; exact (hpr m (by omega)).2.1.2.2, hFW.2.2.2 l a b⟩)) hd1.symm) (uni_l hm.1) rfl gy_X7_link ⟨⟨by decide, by decide⟩, by show K + 2 + 0 ≤ 807546; omega, by show N + 12 + 0 ≤ 6673467; omega⟩ rfl (Nat.le_of_ble_eq_true rfl) rfl dL_law_968 (fun E σ9 hX9 => ?_) (fun v9 σ9 hX9 => ?_)
  · obtain ⟨_, h9, _⟩ := hX9; exact h9.elim
  obtain ⟨σ2a, ⟨rfl, hm1, _⟩, rfl, hd2⟩ := hX9
  show G Γ _ (K + 2) (N + 12) 971 _ (.int (iI _) :: _)
  refine g_istore (pc := 971) (i := 6) cx (by simp) dL_law_971 ?_
  show G Γ _ _ _ 973 [some (.ref b), some (.ref x), some (.ref h), some (.ref o), some (.int (iI (7 * (j : Int)))), some (.int (iI _)), some (.int (iI _))] []
  refine g_aload_n (pc := 973) (q := 2) (i := 2) cx rfl rfl dL_law_973 ?_
  refine g_callV (pc := 974) (As := []) (rest := []) cx lk_L_76 (gM_fr (c_X7_thrown hm1) hd2) (uni_l hm1.1) rfl gy_X7_thrown ⟨⟨by decide, by decide⟩, by show K + 2 + 0 ≤ 807546; omega, by show N + 12 + 0 ≤ 6673467; omega⟩ rfl (Nat.le_of_ble_eq_true rfl) rfl dL_law_974 (fun E σ9 hX9 => ?_) (fun v9 σ9 hX9 => ?_)
  · obtain ⟨_, h9, _⟩ := hX9; exact h9.elim
  obtain ⟨σ2b, ⟨rfl, hm2, _⟩, rfl, hd3⟩ := hX9
  show G Γ _ (K + 2) (N + 12) 977 _ (.int (iI _) :: _)
  refine g_iload (pc := 977) (i := 5) cx rfl dL_law_977 ?_
  refine z_icmp_eq (pc := 979) (tgt := 984) cx ⟨by omega, by omega⟩ (by decide) dL_law_979 (fun _ => ?_) (fun c9 => absurd rfl c9)
  refine g_iload (pc := 984) (i := 5) cx rfl dL_law_984 ?_
  refine z_if_ne (pc := 986) (tgt := 1001) cx (by omega) (by decide) dL_law_986 (fun cz => ?_) (fun cz => ?_)
  · skip
    refine g_goto (pc := 1001) (tgt := 1060) cx (by decide) dL_law_1001 ?_
    refine g_widen (k := K + 30) (n := N + 120) (by omega) (by omega) ?_
    exact hk _ _ _ ⟨σb, σ2b, f1, _, uni_comm hd3, ho1, hd3.symm, hw1, hm2⟩
  · skip
    refine g_aload_n (pc := 989) (q := 3) (i := 3) cx rfl rfl dL_law_989 ?_
    refine z_iconst (pc := 990) cx dL_law_990 ?_
    refine g_lald (pc := 991) (N := 1) (f := f1) cx (uni_r hd3 (by rw [uni_n ho1, one_s])) (iI_in (by decide) (by decide)) dL_law_991 ?_
    rw [show f1 (iI 0).toNatClampNeg = f1 0 by rw [iI_cl (by decide)]; rfl, hf1 cz]
    refine g_iload (pc := 992) (i := 6) cx rfl dL_law_992 ?_
    refine g_i2l (pc := 994) cx dL_law_994 ?_
    refine g_lcmp (pc := 995) cx dL_law_995 ?_
    rw [lg_self]
    refine z_if_eq (pc := 996) (tgt := 1001) cx (by decide) (by decide) dL_law_996 (fun _ => ?_) (fun c9 => absurd rfl c9)
    refine g_goto (pc := 1001) (tgt := 1060) cx (by decide) dL_law_1001 ?_
    refine g_widen (k := K + 30) (n := N + 120) (by omega) (by omega) ?_
    exact hk _ _ _ ⟨σb, σ2b, f1, _, uni_comm hd3, ho1, hd3.symm, hw1, hm2⟩
set_option maxRecDepth 100000 in
set_option maxHeartbeats 4000000 in
theorem lc_streams {lc : Launch} {Γ : gC} {cd ad : Nat → Nat} {b L x h o j K N : Nat} {xs : Nat → Int32} {σ : hS} {tm : Int} {v5 v6 : Option Value} (cx : CX lc Γ cL_law RL 7 room_1) (hX : LXt Γ b L xs) (hL : L ≤ 3584) (hst : lc.stackTraces = false) (hx : x = cd 0) (hj : 7 * j + 7 ≤ L) (htm : tm ≤ 900000) (hK : K + 30 ≤ 807546) (hN : N + 120 ≤ 6673467) (hw : LI (gdA Γ) cd ad h o σ tm) (hk : ∀ σ2 u5 u6, LI (gdA Γ) cd ad h o σ2 (tm + 200) → G Γ σ2 (K + 30) (N + 120) 1060 [some (.ref b), some (.ref x), some (.ref h), some (.ref o), some (.int (iI (7 * (j : Int)))), u5, u6] []) : G Γ σ K N 1004 [some (.ref b), some (.ref x), some (.ref h), some (.ref o), some (.int (iI (7 * (j : Int)))), v5, v6] [] := by
  obtain ⟨σ1, σ2, f, S, rfl, ho, hd, hws, hm⟩ := hw
  obtain ⟨C, R, n4, Q4, na, Qa, n, Q, -, hsm, -, hfr, -, -, hle⟩ := id hws
  have hFW : FW S := (w_facts hsm hfr (by omega)).2.2.2.2.2
  have hs0 := hsm.2.1
  have hs2 := hsm.1.2.1
  have hrg := hsm.1.2.2.2.2.1
  have hpr := hsm.1.2.2.2.2.2.1
  refine g_aload_n (pc := 1004) (q := 1) (i := 1) cx rfl rfl dL_law_1004 ?_
  refine g_aload_n (pc := 1005) (q := 0) (i := 0) cx rfl rfl dL_law_1005 ?_
  refine g_iload (pc := 1006) (i := 4) cx rfl dL_law_1006 ?_
  refine z_iconst (pc := 1008) cx dL_law_1008 ?_
  refine z_iadd (pc := 1009) cx dL_law_1009 ?_
  refine g_scr (pc := 1010) cx hX hL (by omega) dL_law_1010 ?_
  refine g_aload_n (pc := 1011) (q := 3) (i := 3) cx rfl rfl dL_law_1011 ?_
  refine g_callSX (pc := 1012) (As := [.ref x, .int (iI (xs (7 * (j : Int) + 1).toNat).toInt), .ref o]) (rest := []) cx lk_L_130 (gM_fr (w_streams hst hx hws ho (t32 _)) hd) gy_L_streams ⟨⟨by decide, by decide⟩, by show K + 1 ≤ 807546; omega, by show N + 6 ≤ 6673467; omega⟩ rfl (Nat.le_of_ble_eq_true rfl) rfl dL_law_1012 (fun E σ9 hX9 => ?_) (fun v9 σ9 hX9 => ?_)
  · obtain ⟨_, h9, _⟩ := hX9; exact h9.elim
  obtain ⟨σa, ⟨rfl, σb, f1, rfl, ho1, hw1, hf1⟩, rfl, hd1⟩ := hX9
  have h00 : 0 ≤ (mw S 0 0 (thSt (xs (7 * (j : Int) + 1).toNat).toInt)) 0 0 ∧ (mw S 0 0 (thSt (xs (7 * (j : Int) + 1).toNat).toInt)) 0 0 ≤ 3 := by
    rw [mw_s]
    unfold thSt
    (repeat' split) <;> omega
  show G Γ _ (K + 1) (N + 6) 1015 _ (.int (iI _) :: _)
  rw [uni_comm hd1]
  refine g_istore (pc := 1015) (i := 5) cx (by simp) dL_law_1015 ?_
  show G Γ _ _ _ 1017 [some (.ref b), some (.ref x), some (.ref h), some (.ref o), some (.int (iI (7 * (j : Int)))), some (.int (iI _)), v6] []
  refine g_aload_n (pc := 1017) (q := 2) (i := 2) cx rfl rfl dL_law_1017 ?_
  refine g_aload_n (pc := 1018) (q := 0) (i := 0) cx rfl rfl dL_law_1018 ?_
  refine g_iload (pc := 1019) (i := 4) cx rfl dL_law_1019 ?_
  refine z_iconst (pc := 1021) cx dL_law_1021 ?_
  refine z_iadd (pc := 1022) cx dL_law_1022 ?_
  refine g_scr (pc := 1023) cx hX hL (by omega) dL_law_1023 ?_
  refine g_callV (pc := 1024) (As := [.int (iI (xs (7 * (j : Int) + 1).toNat).toInt)]) (rest := []) cx lk_L_132 (gM_fr (c_X7_streams hm (t32 _)) hd1.symm) (uni_l hm.1) rfl gy_X7_streams ⟨⟨by decide, by decide⟩, by show K + 1 + 0 ≤ 807546; omega, by show N + 6 + 0 ≤ 6673467; omega⟩ rfl (Nat.le_of_ble_eq_true rfl) rfl dL_law_1024 (fun E σ9 hX9 => ?_) (fun v9 σ9 hX9 => ?_)
  · obtain ⟨_, h9, _⟩ := hX9; exact h9.elim
  obtain ⟨σ2a, ⟨rfl, hm1, _⟩, rfl, hd2⟩ := hX9
  show G Γ _ (K + 1) (N + 6) 1027 _ (.int (iI _) :: _)
  refine g_istore (pc := 1027) (i := 6) cx (by simp) dL_law_1027 ?_
  show G Γ _ _ _ 1029 [some (.ref b), some (.ref x), some (.ref h), some (.ref o), some (.int (iI (7 * (j : Int)))), some (.int (iI _)), some (.int (iI _))] []
  refine g_aload_n (pc := 1029) (q := 2) (i := 2) cx rfl rfl dL_law_1029 ?_
  refine g_callV (pc := 1030) (As := []) (rest := []) cx lk_L_76 (gM_fr (c_X7_thrown hm1) hd2) (uni_l hm1.1) rfl gy_X7_thrown ⟨⟨by decide, by decide⟩, by show K + 1 + 0 ≤ 807546; omega, by show N + 6 + 0 ≤ 6673467; omega⟩ rfl (Nat.le_of_ble_eq_true rfl) rfl dL_law_1030 (fun E σ9 hX9 => ?_) (fun v9 σ9 hX9 => ?_)
  · obtain ⟨_, h9, _⟩ := hX9; exact h9.elim
  obtain ⟨σ2b, ⟨rfl, hm2, _⟩, rfl, hd3⟩ := hX9
  show G Γ _ (K + 1) (N + 6) 1033 _ (.int (iI _) :: _)
  refine g_iload (pc := 1033) (i := 5) cx rfl dL_law_1033 ?_
  refine z_icmp_eq (pc := 1035) (tgt := 1040) cx ⟨by omega, by omega⟩ (by decide) dL_law_1035 (fun _ => ?_) (fun c9 => absurd rfl c9)
  refine g_iload (pc := 1040) (i := 5) cx rfl dL_law_1040 ?_
  refine z_if_ne (pc := 1042) (tgt := 1057) cx (by omega) (by decide) dL_law_1042 (fun cz => ?_) (fun cz => ?_)
  · skip
    refine g_goto (pc := 1057) (tgt := 1060) cx (by decide) dL_law_1057 ?_
    refine g_widen (k := K + 30) (n := N + 120) (by omega) (by omega) ?_
    exact hk _ _ _ ⟨σb, σ2b, f1, _, uni_comm hd3, ho1, hd3.symm, hw1, hm2⟩
  · skip
    refine g_aload_n (pc := 1045) (q := 3) (i := 3) cx rfl rfl dL_law_1045 ?_
    refine z_iconst (pc := 1046) cx dL_law_1046 ?_
    refine g_lald (pc := 1047) (N := 1) (f := f1) cx (uni_r hd3 (by rw [uni_n ho1, one_s])) (iI_in (by decide) (by decide)) dL_law_1047 ?_
    rw [show f1 (iI 0).toNatClampNeg = f1 0 by rw [iI_cl (by decide)]; rfl, hf1 cz]
    refine g_iload (pc := 1048) (i := 6) cx rfl dL_law_1048 ?_
    refine g_i2l (pc := 1050) cx dL_law_1050 ?_
    refine g_lcmp (pc := 1051) cx dL_law_1051 ?_
    rw [lg_self]
    refine z_if_eq (pc := 1052) (tgt := 1057) cx (by decide) (by decide) dL_law_1052 (fun _ => ?_) (fun c9 => absurd rfl c9)
    refine g_goto (pc := 1057) (tgt := 1060) cx (by decide) dL_law_1057 ?_
    refine g_widen (k := K + 30) (n := N + 120) (by omega) (by omega) ?_
    exact hk _ _ _ ⟨σb, σ2b, f1, _, uni_comm hd3, ho1, hd3.symm, hw1, hm2⟩
set_option maxRecDepth 100000 in
set_option maxHeartbeats 4000000 in
theorem lc_clear {lc : Launch} {Γ : gC} {cd ad : Nat → Nat} {b L x h o j K N : Nat} {xs : Nat → Int32} {σ : hS} {tm : Int} {v5 v6 : Option Value} (cx : CX lc Γ cL_law RL 7 room_1) (hX : LXt Γ b L xs) (hL : L ≤ 3584) (hst : lc.stackTraces = false) (hx : x = cd 0) (hj : 7 * j + 7 ≤ L) (htm : tm ≤ 900000) (hK : K + 30 ≤ 807546) (hN : N + 120 ≤ 6673467) (hw : LI (gdA Γ) cd ad h o σ tm) (hk : ∀ σ2 u5 u6, LI (gdA Γ) cd ad h o σ2 (tm + 200) → G Γ σ2 (K + 30) (N + 120) 1060 [some (.ref b), some (.ref x), some (.ref h), some (.ref o), some (.int (iI (7 * (j : Int)))), u5, u6] []) : G Γ σ K N 286 [some (.ref b), some (.ref x), some (.ref h), some (.ref o), some (.int (iI (7 * (j : Int)))), v5, v6] [] := by
  obtain ⟨σ1, σ2, f, S, rfl, ho, hd, hws, hm⟩ := hw
  obtain ⟨C, R, n4, Q4, na, Qa, n, Q, -, hsm, -, hfr, -, -, hle⟩ := id hws
  have hFW : FW S := (w_facts hsm hfr (by omega)).2.2.2.2.2
  have hs0 := hsm.2.1
  have hs2 := hsm.1.2.1
  have hrg := hsm.1.2.2.2.2.1
  have hpr := hsm.1.2.2.2.2.2.1
  refine g_aload_n (pc := 286) (q := 1) (i := 1) cx rfl rfl dL_law_286 ?_
  obtain ⟨fs, hfs⟩ := hws.x hx
  refine g_callV (pc := 287) (As := []) (rest := []) cx lk_L_84 (gM_fr (w_clear hx hws ho) hd) (uni_l (uni_l hfs)) rfl gy_X6_clear ⟨⟨by decide, by decide⟩, by show K + 0 ≤ 807546; omega, by show N + 0 ≤ 6673467; omega⟩ rfl (Nat.le_of_ble_eq_true rfl) rfl dL_law_287 (fun E σ9 hX9 => ?_) (fun v9 σ9 hX9 => ?_)
  · obtain ⟨_, h9, _⟩ := hX9; exact h9.elim
  obtain ⟨σa, ⟨rfl, σb, rfl, ho1, hw1⟩, rfl, hd1⟩ := hX9
  show G Γ _ (K + 0) (N + 0) 290 _ _
  rw [uni_comm hd1]
  refine g_aload_n (pc := 290) (q := 2) (i := 2) cx rfl rfl dL_law_290 ?_
  refine g_callV (pc := 291) (As := []) (rest := []) cx lk_L_87 (gM_fr (c_X7_clear hm ) hd1.symm) (uni_l hm.1) rfl gy_X7_clear ⟨⟨by decide, by decide⟩, by show K + 0 + 0 ≤ 807546; omega, by show N + 0 + 0 ≤ 6673467; omega⟩ rfl (Nat.le_of_ble_eq_true rfl) rfl dL_law_291 (fun E σ9 hX9 => ?_) (fun v9 σ9 hX9 => ?_)
  · obtain ⟨_, h9, _⟩ := hX9; exact h9.elim
  obtain ⟨σ2b, ⟨rfl, hm2, _⟩, rfl, hd3⟩ := hX9
  show G Γ _ (K + 0) (N + 0) 294 _ _
  refine g_goto (pc := 294) (tgt := 1060) cx (by decide) dL_law_294 ?_
  refine g_widen (k := K + 30) (n := N + 120) (by omega) (by omega) ?_
  exact hk _ _ _ ⟨σb, σ2b, f, _, uni_comm hd3, ho1, hd3.symm, hw1, hm2⟩
set_option maxRecDepth 100000 in
set_option maxHeartbeats 4000000 in
theorem lc_tries {lc : Launch} {Γ : gC} {cd ad : Nat → Nat} {b L x h o j K N : Nat} {xs : Nat → Int32} {σ : hS} {tm : Int} {v5 v6 : Option Value} (cx : CX lc Γ cL_law RL 7 room_1) (hX : LXt Γ b L xs) (hL : L ≤ 3584) (hst : lc.stackTraces = false) (hx : x = cd 0) (hj : 7 * j + 7 ≤ L) (htm : tm ≤ 900000) (hK : K + 30 ≤ 807546) (hN : N + 120 ≤ 6673467) (hw : LI (gdA Γ) cd ad h o σ tm) (hk : ∀ σ2 u5 u6, LI (gdA Γ) cd ad h o σ2 (tm + 200) → G Γ σ2 (K + 30) (N + 120) 1060 [some (.ref b), some (.ref x), some (.ref h), some (.ref o), some (.int (iI (7 * (j : Int)))), u5, u6] []) : G Γ σ K N 353 [some (.ref b), some (.ref x), some (.ref h), some (.ref o), some (.int (iI (7 * (j : Int)))), v5, v6] [] := by
  obtain ⟨σ1, σ2, f, S, rfl, ho, hd, hws, hm⟩ := hw
  obtain ⟨C, R, n4, Q4, na, Qa, n, Q, -, hsm, -, hfr, -, -, hle⟩ := id hws
  have hFW : FW S := (w_facts hsm hfr (by omega)).2.2.2.2.2
  have hs0 := hsm.2.1
  have hs2 := hsm.1.2.1
  have hrg := hsm.1.2.2.2.2.1
  have hpr := hsm.1.2.2.2.2.2.1
  refine g_aload_n (pc := 353) (q := 1) (i := 1) cx rfl rfl dL_law_353 ?_
  obtain ⟨fs, hfs⟩ := hws.x hx
  refine g_callV (pc := 354) (As := []) (rest := []) cx lk_L_92 (gM_fr (w_tries hx hws ho) hd) (uni_l (uni_l hfs)) rfl gy_X6_tries ⟨⟨by decide, by decide⟩, by show K + 0 ≤ 807546; omega, by show N + 0 ≤ 6673467; omega⟩ rfl (Nat.le_of_ble_eq_true rfl) rfl dL_law_354 (fun E σ9 hX9 => ?_) (fun v9 σ9 hX9 => ?_)
  · obtain ⟨_, h9, _⟩ := hX9; exact h9.elim
  obtain ⟨σa, ⟨rfl, σb, rfl, ho1, hw1⟩, rfl, hd1⟩ := hX9
  show G Γ _ (K + 0) (N + 0) 357 _ (.int (iI _) :: _)
  rw [uni_comm hd1]
  refine g_aload_n (pc := 357) (q := 2) (i := 2) cx rfl rfl dL_law_357 ?_
  refine g_callV (pc := 358) (As := []) (rest := [.int (iI (S 13 0))]) cx lk_L_95 (gM_fr (c_X7_tries hm ) hd1.symm) (uni_l hm.1) rfl gy_X7_tries ⟨⟨by decide, by decide⟩, by show K + 0 + 0 ≤ 807546; omega, by show N + 0 + 0 ≤ 6673467; omega⟩ rfl (Nat.le_of_ble_eq_true rfl) rfl dL_law_358 (fun E σ9 hX9 => ?_) (fun v9 σ9 hX9 => ?_)
  · obtain ⟨_, h9, _⟩ := hX9; exact h9.elim
  obtain ⟨σ2b, ⟨rfl, hm2, _⟩, rfl, hd3⟩ := hX9
  show G Γ _ (K + 0) (N + 0) 361 _ (.int (iI _) :: _)
  refine g_icmp_eq (pc := 361) (tgt := 1060) cx (by decide) dL_law_361 (fun _ => ?_) (fun c9 => absurd rfl c9)
  refine g_widen (k := K + 30) (n := N + 120) (by omega) (by omega) ?_
  exact hk _ _ _ ⟨σb, σ2b, f, _, uni_comm hd3, ho1, hd3.symm, hw1, hm2⟩
