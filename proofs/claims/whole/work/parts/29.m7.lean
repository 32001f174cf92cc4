/-! contracts (walks laid by program) -/
set_option maxRecDepth 100000 in
set_option maxHeartbeats 4000000 in
theorem c_X7_stream {lc : Launch} {dA : Nat → ClassId} {ad : Nat → Nat} {σ0 : hS} {h : Nat} {S : mS} (hm : mat dA ad σ0 h S) {p s d a b c : Int} (hr : ((-2147483648 ≤ p ∧ p ≤ 2147483647) ∧ (-2147483648 ≤ s ∧ s ≤ 2147483647) ∧ (-2147483648 ≤ d ∧ d ≤ 2147483647) ∧ (-2147483648 ≤ a ∧ a ≤ 2147483647) ∧ (-2147483648 ≤ b ∧ b ≤ 2147483647) ∧ (-2147483648 ≤ c ∧ c ≤ 2147483647))) (hn : 0 ≤ S 2 0 ∧ S 2 0 ≤ 5) : gM lc dA yX7_stream (.code yX7_stream cX7_stream 10 (some .int)) { frames := 1, cells := 0, slots := 0, locals := 20 } σ0 [.ref h, .int (iI p), .int (iI s), .int (iI d), .int (iI a), .int (iI b), .int (iI c)] (mP dA ad h σ0 (some (.int (iI (strRt S p s d a b c)))) (strS S p s d a b c)) nX := by
  refine gM_body (by decide +kernel) (by simp [Value.category]) (Nat.le_of_ble_eq_true rfl) (fun Γ hdA cx rx nx => ?_)
  subst hdA
  have cx : CX lc Γ cX7_stream RX7 10 { frames := 1, cells := 0, slots := 0, locals := 20 } := cx
  show G Γ σ0 0 0 0 [some (.ref h), some (.int (iI p)), some (.int (iI s)), some (.int (iI d)), some (.int (iI a)), some (.int (iI b)), some (.int (iI c)), none, none, none] []
  have hF : mFr ad h σ0 σ0 := mFr.rf
  have J41 : ∀ (e : Int) (σ : hS), e = bz (decide ((0 ≤ a ∧ a < 6) ∧ (b = -1 ∨ (0 ≤ b ∧ b < 6)) ∧ (c = -1 ∨ (0 ≤ c ∧ c < 6)))) → mat (gdA Γ) ad σ h S → mFr ad h σ0 σ → G Γ σ 0 0 41 [some (.ref h), some (.int (iI (p))), some (.int (iI (s))), some (.int (iI (d))), some (.int (iI (a))), some (.int (iI (b))), some (.int (iI (c))), none, none, none] [.int (iI e)] := by
    intro e σ he hm hF
    refine z_is_10_7 (pc := 41) cx dX7_stream_41 ?_
    have J75 : ∀ (e2 : Int) (σ : hS), e2 = bz (decide (a ≠ b ∧ a ≠ c ∧ (b ≠ c ∨ b = -1))) → mat (gdA Γ) ad σ h S → mFr ad h σ0 σ → G Γ σ 0 0 75 [some (.ref h), some (.int (iI (p))), some (.int (iI (s))), some (.int (iI (d))), some (.int (iI (a))), some (.int (iI (b))), some (.int (iI (c))), some (.int (iI (e))), none, none] [.int (iI e2)] := by
      intro e2 σ he2 hm hF
      refine z_is_10_8 (pc := 75) cx dX7_stream_75 ?_
      have J136 : ∀ (e3 : Int) (σ : hS), e3 = bz (decide ((a ≠ b ∧ a ≠ c ∧ (b ≠ c ∨ b = -1)) ∧ (b ≠ -1 ∨ c = -1) ∧ (p = 8 ∨ p = 16 ∨ p = 32) ∧ (0 < s ∧ s < 5) ∧ (0 < d ∧ d < 61))) → mat (gdA Γ) ad σ h S → mFr ad h σ0 σ → G Γ σ 0 0 136 [some (.ref h), some (.int (iI (p))), some (.int (iI (s))), some (.int (iI (d))), some (.int (iI (a))), some (.int (iI (b))), some (.int (iI (c))), some (.int (iI (e))), some (.int (iI (e2))), none] [.int (iI e3)] := by
        intro e3 σ he3 hm hF
        refine z_is_10_9 (pc := 136) cx dX7_stream_136 ?_
        have J170 : ∀ (e4 : Int) (σ : hS), e4 = thSm S p s d a b c → mat (gdA Γ) ad σ h S → mFr ad h σ0 σ → G Γ σ 0 0 170 [some (.ref h), some (.int (iI (p))), some (.int (iI (s))), some (.int (iI (d))), some (.int (iI (a))), some (.int (iI (b))), some (.int (iI (c))), some (.int (iI (e))), some (.int (iI (e2))), some (.int (iI (e3)))] [.int (iI e4), .ref h] := by
          intro e4 σ he4 hm hF
          have her : 0 ≤ e4 ∧ e4 ≤ 3 := by rw [he4]; unfold thSm; (repeat' split) <;> omega
          refine m_put (pc := 170) cx hm hF fl_X7_89 ⟨rfl, rfl, by decide, rfl⟩ (mFs_0 _ _ _) dX7_stream_170 ?_
          intro σ hm hF
          refine z_al_10_0 (pc := 173) cx dX7_stream_173 ?_
          refine m_get (pc := 174) cx hm fl_X7_89 rfl dX7_stream_174 ?_
          refine z_if_le (pc := 177) (tgt := 182) cx (by rw [mw_s]; omega) (by decide) dX7_stream_177 (fun c_177 => ?_) (fun c_177 => ?_)
          · skip
            rw [mw_s] at c_177
            have hz : S 2 0 ≠ 5 := by unfold thSm at he4; split at he4; omega; split at he4; omega; split at he4 <;> omega
            refine z_al_10_0 (pc := 182) cx dX7_stream_182 ?_
            refine m_get (pc := 183) cx hm fl_X7_13 rfl dX7_stream_183 ?_
            refine z_al_10_0 (pc := 186) cx dX7_stream_186 ?_
            refine m_get (pc := 187) cx hm fl_X7_97 rfl dX7_stream_187 ?_
            refine z_il_10_1 (pc := 190) cx dX7_stream_190 ?_
            refine m_iast (pc := 191) (k := 3) (L := 5) cx hm hF ⟨rfl, rfl, by decide, by decide⟩ dX7_stream_191 (by show 0 ≤ S 2 0 ∧ S 2 0 < ((5 : Nat) : Int); omega) ?_
            intro σ hm hF
            refine z_al_10_0 (pc := 192) cx dX7_stream_192 ?_
            refine m_get (pc := 193) cx hm fl_X7_16 rfl dX7_stream_193 ?_
            refine z_al_10_0 (pc := 196) cx dX7_stream_196 ?_
            refine m_get (pc := 197) cx hm fl_X7_97 rfl dX7_stream_197 ?_
            refine z_il_10_2 (pc := 200) cx dX7_stream_200 ?_
            refine m_iast (pc := 201) (k := 4) (L := 5) cx hm hF ⟨rfl, rfl, by decide, by decide⟩ dX7_stream_201 (by show 0 ≤ S 2 0 ∧ S 2 0 < ((5 : Nat) : Int); omega) ?_
            intro σ hm hF
            refine z_al_10_0 (pc := 202) cx dX7_stream_202 ?_
            refine m_get (pc := 203) cx hm fl_X7_19 rfl dX7_stream_203 ?_
            refine z_al_10_0 (pc := 206) cx dX7_stream_206 ?_
            refine m_get (pc := 207) cx hm fl_X7_97 rfl dX7_stream_207 ?_
            refine z_il_10_3 (pc := 210) cx dX7_stream_210 ?_
            refine m_iast (pc := 211) (k := 5) (L := 5) cx hm hF ⟨rfl, rfl, by decide, by decide⟩ dX7_stream_211 (by show 0 ≤ S 2 0 ∧ S 2 0 < ((5 : Nat) : Int); omega) ?_
            intro σ hm hF
            refine z_al_10_0 (pc := 212) cx dX7_stream_212 ?_
            refine m_get (pc := 213) cx hm fl_X7_22 rfl dX7_stream_213 ?_
            refine z_iconst (pc := 216) cx dX7_stream_216 ?_
            refine z_al_10_0 (pc := 217) cx dX7_stream_217 ?_
            refine m_get (pc := 218) cx hm fl_X7_97 rfl dX7_stream_218 ?_
            refine z_imul (pc := 221) cx dX7_stream_221 ?_
            refine z_il_10_4 (pc := 222) cx dX7_stream_222 ?_
            refine m_iast (pc := 224) (k := 6) (L := 15) cx hm hF ⟨rfl, rfl, by decide, by decide⟩ dX7_stream_224 (by show 0 ≤ 3 * S 2 0 ∧ 3 * S 2 0 < ((15 : Nat) : Int); omega) ?_
            intro σ hm hF
            refine z_al_10_0 (pc := 225) cx dX7_stream_225 ?_
            refine m_get (pc := 226) cx hm fl_X7_22 rfl dX7_stream_226 ?_
            refine z_iconst (pc := 229) cx dX7_stream_229 ?_
            refine z_al_10_0 (pc := 230) cx dX7_stream_230 ?_
            refine m_get (pc := 231) cx hm fl_X7_97 rfl dX7_stream_231 ?_
            refine z_imul (pc := 234) cx dX7_stream_234 ?_
            refine z_iconst (pc := 235) cx dX7_stream_235 ?_
            refine z_iadd (pc := 236) cx dX7_stream_236 ?_
            refine z_il_10_5 (pc := 237) cx dX7_stream_237 ?_
            refine m_iast (pc := 239) (k := 6) (L := 15) cx hm hF ⟨rfl, rfl, by decide, by decide⟩ dX7_stream_239 (by show 0 ≤ 3 * S 2 0 + 1 ∧ 3 * S 2 0 + 1 < ((15 : Nat) : Int); omega) ?_
            intro σ hm hF
            refine z_al_10_0 (pc := 240) cx dX7_stream_240 ?_
            refine m_get (pc := 241) cx hm fl_X7_22 rfl dX7_stream_241 ?_
            refine z_iconst (pc := 244) cx dX7_stream_244 ?_
            refine z_al_10_0 (pc := 245) cx dX7_stream_245 ?_
            refine m_get (pc := 246) cx hm fl_X7_97 rfl dX7_stream_246 ?_
            refine z_imul (pc := 249) cx dX7_stream_249 ?_
            refine z_iconst (pc := 250) cx dX7_stream_250 ?_
            refine z_iadd (pc := 251) cx dX7_stream_251 ?_
            refine z_il_10_6 (pc := 252) cx dX7_stream_252 ?_
            refine m_iast (pc := 254) (k := 6) (L := 15) cx hm hF ⟨rfl, rfl, by decide, by decide⟩ dX7_stream_254 (by show 0 ≤ 3 * S 2 0 + 2 ∧ 3 * S 2 0 + 2 < ((15 : Nat) : Int); omega) ?_
            intro σ hm hF
            refine z_al_10_0 (pc := 255) cx dX7_stream_255 ?_
            refine g_dup (pc := 256) cx rfl dX7_stream_256 ?_
            refine m_get (pc := 257) cx hm fl_X7_97 rfl dX7_stream_257 ?_
            refine z_iconst (pc := 260) cx dX7_stream_260 ?_
            refine z_iadd (pc := 261) cx dX7_stream_261 ?_
            refine m_put (pc := 262) cx hm hF fl_X7_97 ⟨rfl, rfl, by decide, rfl⟩ (mFs_2 _ _ _) dX7_stream_262 ?_
            intro σ hm hF
            refine z_al_10_0 (pc := 265) cx dX7_stream_265 ?_
            refine m_get (pc := 266) cx hm fl_X7_97 rfl dX7_stream_266 ?_
            refine z_iconst (pc := 269) cx dX7_stream_269 ?_
            refine z_isub (pc := 270) cx dX7_stream_270 ?_
            exact z_ret (pc := 271) cx rx (by decide) (by decide) dX7_stream_271 ⟨(by
              rw [strRt, ← he4, if_pos (by omega), mw_s]
              show some (Value.int (iI (S 2 0 + 1 - 1))) = _
              rw [show S 2 0 + 1 - 1 = S 2 0 by omega]), by unfold strS; rw [← he4, if_pos (by omega)]; exact hm, hF⟩
          · skip
            refine z_iconst (pc := 180) cx dX7_stream_180 ?_
            rw [mw_s] at c_177
            exact z_ret (pc := 181) cx rx (by decide) (by decide) dX7_stream_181 ⟨by rw [strRt, ← he4, if_neg (by omega)], by unfold strS; rw [← he4, if_neg (by omega)]; exact hm, hF⟩
        refine z_al_10_0 (pc := 138) cx dX7_stream_138 ?_
        refine z_il_10_7 (pc := 139) cx dX7_stream_139 ?_
        refine z_if_ne (pc := 141) (tgt := 148) cx (by rw [he]; have := bz_r (decide ((0 ≤ a ∧ a < 6) ∧ (b = -1 ∨ (0 ≤ b ∧ b < 6)) ∧ (c = -1 ∨ (0 ≤ c ∧ c < 6)))); omega) (by decide) dX7_stream_141 (fun c_141 => ?_) (fun c_141 => ?_)
        · skip
          refine z_il_10_9 (pc := 148) cx dX7_stream_148 ?_
          refine z_if_ne (pc := 150) (tgt := 157) cx (by rw [he3]; have := bz_r (decide ((a ≠ b ∧ a ≠ c ∧ (b ≠ c ∨ b = -1)) ∧ (b ≠ -1 ∨ c = -1) ∧ (p = 8 ∨ p = 16 ∨ p = 32) ∧ (0 < s ∧ s < 5) ∧ (0 < d ∧ d < 61))); omega) (by decide) dX7_stream_150 (fun c_150 => ?_) (fun c_150 => ?_)
          · skip
            refine z_al_10_0 (pc := 157) cx dX7_stream_157 ?_
            refine m_get (pc := 158) cx hm fl_X7_97 rfl dX7_stream_158 ?_
            refine z_iconst (pc := 161) cx dX7_stream_161 ?_
            refine z_icmp_ne (pc := 162) (tgt := 169) cx (by omega) (by decide) dX7_stream_162 (fun c_162 => ?_) (fun c_162 => ?_)
            · skip
              refine z_iconst (pc := 169) cx dX7_stream_169 ?_
              exact J170 _ _ (by
                rw [he] at c_141
                try rw [he3] at c_150
                try simp only [bzd_0, bzd_n0] at c_141
                try simp only [bzd_0, bzd_n0] at c_150
                unfold thSm
                (repeat' split) <;> omega) hm hF
            · skip
              refine z_iconst (pc := 165) cx dX7_stream_165 ?_
              refine g_goto (pc := 166) (tgt := 170) cx (by decide) dX7_stream_166 ?_
              exact J170 _ _ (by
                rw [he] at c_141
                try rw [he3] at c_150
                try simp only [bzd_0, bzd_n0] at c_141
                try simp only [bzd_0, bzd_n0] at c_150
                unfold thSm
                (repeat' split) <;> omega) hm hF
          · skip
            refine z_iconst (pc := 153) cx dX7_stream_153 ?_
            refine g_goto (pc := 154) (tgt := 170) cx (by decide) dX7_stream_154 ?_
            exact J170 _ _ (by
              rw [he] at c_141
              try rw [he3] at c_150
              try simp only [bzd_0, bzd_n0] at c_141
              try simp only [bzd_0, bzd_n0] at c_150
              unfold thSm
              (repeat' split) <;> omega) hm hF
        · skip
          refine z_iconst (pc := 144) cx dX7_stream_144 ?_
          refine g_goto (pc := 145) (tgt := 170) cx (by decide) dX7_stream_145 ?_
          exact J170 _ _ (by
            rw [he] at c_141
            try rw [he3] at c_150
            try simp only [bzd_0, bzd_n0] at c_141
            try simp only [bzd_0, bzd_n0] at c_150
            unfold thSm
            (repeat' split) <;> omega) hm hF
      refine z_il_10_8 (pc := 77) cx dX7_stream_77 ?_
      refine z_if_eq (pc := 79) (tgt := 135) cx (by rw [he2]; have := bz_r (decide (a ≠ b ∧ a ≠ c ∧ (b ≠ c ∨ b = -1))); omega) (by decide) dX7_stream_79 (fun c_79 => ?_) (fun c_79 => ?_)
      · skip
        refine z_iconst (pc := 135) cx dX7_stream_135 ?_
        exact J136 _ _ (bzd (by
          rw [he2] at c_79
          try simp only [bzd_0, bzd_n0] at c_79
          omega)) hm hF
      · skip
        refine z_il_10_5 (pc := 82) cx dX7_stream_82 ?_
        refine z_iconst (pc := 84) cx dX7_stream_84 ?_
        refine z_icmp_ne (pc := 85) (tgt := 94) cx (by omega) (by decide) dX7_stream_85 (fun c_85 => ?_) (fun c_85 => ?_)
        · skip
          refine z_il_10_1 (pc := 94) cx dX7_stream_94 ?_
          refine z_bipush (pc := 95) cx rfl dX7_stream_95 ?_
          refine z_icmp_eq (pc := 97) (tgt := 112) cx (by omega) (by decide) dX7_stream_97 (fun c_97 => ?_) (fun c_97 => ?_)
          · skip
            refine z_il_10_2 (pc := 112) cx dX7_stream_112 ?_
            refine z_if_le (pc := 113) (tgt := 135) cx (by omega) (by decide) dX7_stream_113 (fun c_113 => ?_) (fun c_113 => ?_)
            · skip
              refine z_iconst (pc := 135) cx dX7_stream_135 ?_
              exact J136 _ _ (bzd (by
                rw [he2] at c_79
                try simp only [bzd_0, bzd_n0] at c_79
                omega)) hm hF
            · skip
              refine z_il_10_2 (pc := 116) cx dX7_stream_116 ?_
              refine z_iconst (pc := 117) cx dX7_stream_117 ?_
              refine z_icmp_ge (pc := 118) (tgt := 135) cx (by omega) (by decide) dX7_stream_118 (fun c_118 => ?_) (fun c_118 => ?_)
              · skip
                refine z_iconst (pc := 135) cx dX7_stream_135 ?_
                exact J136 _ _ (bzd (by
                  rw [he2] at c_79
                  try simp only [bzd_0, bzd_n0] at c_79
                  omega)) hm hF
              · skip
                refine z_il_10_3 (pc := 121) cx dX7_stream_121 ?_
                refine z_if_le (pc := 122) (tgt := 135) cx (by omega) (by decide) dX7_stream_122 (fun c_122 => ?_) (fun c_122 => ?_)
                · skip
                  refine z_iconst (pc := 135) cx dX7_stream_135 ?_
                  exact J136 _ _ (bzd (by
                    rw [he2] at c_79
                    try simp only [bzd_0, bzd_n0] at c_79
                    omega)) hm hF
                · skip
                  refine z_il_10_3 (pc := 125) cx dX7_stream_125 ?_
                  refine z_bipush (pc := 126) cx rfl dX7_stream_126 ?_
                  refine z_icmp_ge (pc := 128) (tgt := 135) cx (by omega) (by decide) dX7_stream_128 (fun c_128 => ?_) (fun c_128 => ?_)
                  · skip
                    refine z_iconst (pc := 135) cx dX7_stream_135 ?_
                    exact J136 _ _ (bzd (by
                      rw [he2] at c_79
                      try simp only [bzd_0, bzd_n0] at c_79
                      omega)) hm hF
                  · skip
                    refine z_iconst (pc := 131) cx dX7_stream_131 ?_
                    refine g_goto (pc := 132) (tgt := 136) cx (by decide) dX7_stream_132 ?_
                    exact J136 _ _ (bzd (by
                      rw [he2] at c_79
                      try simp only [bzd_0, bzd_n0] at c_79
                      omega)) hm hF
          · skip
            refine z_il_10_1 (pc := 100) cx dX7_stream_100 ?_
            refine z_bipush (pc := 101) cx rfl dX7_stream_101 ?_
            refine z_icmp_eq (pc := 103) (tgt := 112) cx (by omega) (by decide) dX7_stream_103 (fun c_103 => ?_) (fun c_103 => ?_)
            · skip
              refine z_il_10_2 (pc := 112) cx dX7_stream_112 ?_
              refine z_if_le (pc := 113) (tgt := 135) cx (by omega) (by decide) dX7_stream_113 (fun c_113 => ?_) (fun c_113 => ?_)
              · skip
                refine z_iconst (pc := 135) cx dX7_stream_135 ?_
                exact J136 _ _ (bzd (by
                  rw [he2] at c_79
                  try simp only [bzd_0, bzd_n0] at c_79
                  omega)) hm hF
              · skip
                refine z_il_10_2 (pc := 116) cx dX7_stream_116 ?_
                refine z_iconst (pc := 117) cx dX7_stream_117 ?_
                refine z_icmp_ge (pc := 118) (tgt := 135) cx (by omega) (by decide) dX7_stream_118 (fun c_118 => ?_) (fun c_118 => ?_)
                · skip
                  refine z_iconst (pc := 135) cx dX7_stream_135 ?_
                  exact J136 _ _ (bzd (by
                    rw [he2] at c_79
                    try simp only [bzd_0, bzd_n0] at c_79
                    omega)) hm hF
                · skip
                  refine z_il_10_3 (pc := 121) cx dX7_stream_121 ?_
                  refine z_if_le (pc := 122) (tgt := 135) cx (by omega) (by decide) dX7_stream_122 (fun c_122 => ?_) (fun c_122 => ?_)
                  · skip
                    refine z_iconst (pc := 135) cx dX7_stream_135 ?_
                    exact J136 _ _ (bzd (by
                      rw [he2] at c_79
                      try simp only [bzd_0, bzd_n0] at c_79
                      omega)) hm hF
                  · skip
                    refine z_il_10_3 (pc := 125) cx dX7_stream_125 ?_
                    refine z_bipush (pc := 126) cx rfl dX7_stream_126 ?_
                    refine z_icmp_ge (pc := 128) (tgt := 135) cx (by omega) (by decide) dX7_stream_128 (fun c_128 => ?_) (fun c_128 => ?_)
                    · skip
                      refine z_iconst (pc := 135) cx dX7_stream_135 ?_
                      exact J136 _ _ (bzd (by
                        rw [he2] at c_79
                        try simp only [bzd_0, bzd_n0] at c_79
                        omega)) hm hF
                    · skip
                      refine z_iconst (pc := 131) cx dX7_stream_131 ?_
                      refine g_goto (pc := 132) (tgt := 136) cx (by decide) dX7_stream_132 ?_
                      exact J136 _ _ (bzd (by
                        rw [he2] at c_79
                        try simp only [bzd_0, bzd_n0] at c_79
                        omega)) hm hF
            · skip
              refine z_il_10_1 (pc := 106) cx dX7_stream_106 ?_
              refine z_bipush (pc := 107) cx rfl dX7_stream_107 ?_
              refine z_icmp_ne (pc := 109) (tgt := 135) cx (by omega) (by decide) dX7_stream_109 (fun c_109 => ?_) (fun c_109 => ?_)
              · skip
                refine z_iconst (pc := 135) cx dX7_stream_135 ?_
                exact J136 _ _ (bzd (by
                  rw [he2] at c_79
                  try simp only [bzd_0, bzd_n0] at c_79
                  omega)) hm hF
              · skip
                refine z_il_10_2 (pc := 112) cx dX7_stream_112 ?_
                refine z_if_le (pc := 113) (tgt := 135) cx (by omega) (by decide) dX7_stream_113 (fun c_113 => ?_) (fun c_113 => ?_)
                · skip
                  refine z_iconst (pc := 135) cx dX7_stream_135 ?_
                  exact J136 _ _ (bzd (by
                    rw [he2] at c_79
                    try simp only [bzd_0, bzd_n0] at c_79
                    omega)) hm hF
                · skip
                  refine z_il_10_2 (pc := 116) cx dX7_stream_116 ?_
                  refine z_iconst (pc := 117) cx dX7_stream_117 ?_
                  refine z_icmp_ge (pc := 118) (tgt := 135) cx (by omega) (by decide) dX7_stream_118 (fun c_118 => ?_) (fun c_118 => ?_)
                  · skip
                    refine z_iconst (pc := 135) cx dX7_stream_135 ?_
                    exact J136 _ _ (bzd (by
                      rw [he2] at c_79
                      try simp only [bzd_0, bzd_n0] at c_79
                      omega)) hm hF
                  · skip
                    refine z_il_10_3 (pc := 121) cx dX7_stream_121 ?_
                    refine z_if_le (pc := 122) (tgt := 135) cx (by omega) (by decide) dX7_stream_122 (fun c_122 => ?_) (fun c_122 => ?_)
                    · skip
                      refine z_iconst (pc := 135) cx dX7_stream_135 ?_
                      exact J136 _ _ (bzd (by
                        rw [he2] at c_79
                        try simp only [bzd_0, bzd_n0] at c_79
                        omega)) hm hF
                    · skip
                      refine z_il_10_3 (pc := 125) cx dX7_stream_125 ?_
                      refine z_bipush (pc := 126) cx rfl dX7_stream_126 ?_
                      refine z_icmp_ge (pc := 128) (tgt := 135) cx (by omega) (by decide) dX7_stream_128 (fun c_128 => ?_) (fun c_128 => ?_)
                      · skip
                        refine z_iconst (pc := 135) cx dX7_stream_135 ?_
                        exact J136 _ _ (bzd (by
                          rw [he2] at c_79
                          try simp only [bzd_0, bzd_n0] at c_79
                          omega)) hm hF
                      · skip
                        refine z_iconst (pc := 131) cx dX7_stream_131 ?_
                        refine g_goto (pc := 132) (tgt := 136) cx (by decide) dX7_stream_132 ?_
                        exact J136 _ _ (bzd (by
                          rw [he2] at c_79
                          try simp only [bzd_0, bzd_n0] at c_79
                          omega)) hm hF
        · skip
          refine z_il_10_6 (pc := 88) cx dX7_stream_88 ?_
          refine z_iconst (pc := 90) cx dX7_stream_90 ?_
          refine z_icmp_ne (pc := 91) (tgt := 135) cx (by omega) (by decide) dX7_stream_91 (fun c_91 => ?_) (fun c_91 => ?_)
          · skip
            refine z_iconst (pc := 135) cx dX7_stream_135 ?_
            exact J136 _ _ (bzd (by
              rw [he2] at c_79
              try simp only [bzd_0, bzd_n0] at c_79
              omega)) hm hF
          · skip
            refine z_il_10_1 (pc := 94) cx dX7_stream_94 ?_
            refine z_bipush (pc := 95) cx rfl dX7_stream_95 ?_
            refine z_icmp_eq (pc := 97) (tgt := 112) cx (by omega) (by decide) dX7_stream_97 (fun c_97 => ?_) (fun c_97 => ?_)
            · skip
              refine z_il_10_2 (pc := 112) cx dX7_stream_112 ?_
              refine z_if_le (pc := 113) (tgt := 135) cx (by omega) (by decide) dX7_stream_113 (fun c_113 => ?_) (fun c_113 => ?_)
              · skip
                refine z_iconst (pc := 135) cx dX7_stream_135 ?_
                exact J136 _ _ (bzd (by
                  rw [he2] at c_79
                  try simp only [bzd_0, bzd_n0] at c_79
                  omega)) hm hF
              · skip
                refine z_il_10_2 (pc := 116) cx dX7_stream_116 ?_
                refine z_iconst (pc := 117) cx dX7_stream_117 ?_
                refine z_icmp_ge (pc := 118) (tgt := 135) cx (by omega) (by decide) dX7_stream_118 (fun c_118 => ?_) (fun c_118 => ?_)
                · skip
                  refine z_iconst (pc := 135) cx dX7_stream_135 ?_
                  exact J136 _ _ (bzd (by
                    rw [he2] at c_79
                    try simp only [bzd_0, bzd_n0] at c_79
                    omega)) hm hF
                · skip
                  refine z_il_10_3 (pc := 121) cx dX7_stream_121 ?_
                  refine z_if_le (pc := 122) (tgt := 135) cx (by omega) (by decide) dX7_stream_122 (fun c_122 => ?_) (fun c_122 => ?_)
                  · skip
                    refine z_iconst (pc := 135) cx dX7_stream_135 ?_
                    exact J136 _ _ (bzd (by
                      rw [he2] at c_79
                      try simp only [bzd_0, bzd_n0] at c_79
                      omega)) hm hF
                  · skip
                    refine z_il_10_3 (pc := 125) cx dX7_stream_125 ?_
                    refine z_bipush (pc := 126) cx rfl dX7_stream_126 ?_
                    refine z_icmp_ge (pc := 128) (tgt := 135) cx (by omega) (by decide) dX7_stream_128 (fun c_128 => ?_) (fun c_128 => ?_)
                    · skip
                      refine z_iconst (pc := 135) cx dX7_stream_135 ?_
                      exact J136 _ _ (bzd (by
                        rw [he2] at c_79
                        try simp only [bzd_0, bzd_n0] at c_79
                        omega)) hm hF
                    · skip
                      refine z_iconst (pc := 131) cx dX7_stream_131 ?_
                      refine g_goto (pc := 132) (tgt := 136) cx (by decide) dX7_stream_132 ?_
                      exact J136 _ _ (bzd (by
                        rw [he2] at c_79
                        try simp only [bzd_0, bzd_n0] at c_79
                        omega)) hm hF
            · skip
              refine z_il_10_1 (pc := 100) cx dX7_stream_100 ?_
              refine z_bipush (pc := 101) cx rfl dX7_stream_101 ?_
              refine z_icmp_eq (pc := 103) (tgt := 112) cx (by omega) (by decide) dX7_stream_103 (fun c_103 => ?_) (fun c_103 => ?_)
              · skip
                refine z_il_10_2 (pc := 112) cx dX7_stream_112 ?_
                refine z_if_le (pc := 113) (tgt := 135) cx (by omega) (by decide) dX7_stream_113 (fun c_113 => ?_) (fun c_113 => ?_)
                · skip
                  refine z_iconst (pc := 135) cx dX7_stream_135 ?_
                  exact J136 _ _ (bzd (by
                    rw [he2] at c_79
                    try simp only [bzd_0, bzd_n0] at c_79
                    omega)) hm hF
                · skip
                  refine z_il_10_2 (pc := 116) cx dX7_stream_116 ?_
                  refine z_iconst (pc := 117) cx dX7_stream_117 ?_
                  refine z_icmp_ge (pc := 118) (tgt := 135) cx (by omega) (by decide) dX7_stream_118 (fun c_118 => ?_) (fun c_118 => ?_)
                  · skip
                    refine z_iconst (pc := 135) cx dX7_stream_135 ?_
                    exact J136 _ _ (bzd (by
                      rw [he2] at c_79
                      try simp only [bzd_0, bzd_n0] at c_79
                      omega)) hm hF
                  · skip
                    refine z_il_10_3 (pc := 121) cx dX7_stream_121 ?_
                    refine z_if_le (pc := 122) (tgt := 135) cx (by omega) (by decide) dX7_stream_122 (fun c_122 => ?_) (fun c_122 => ?_)
                    · skip
                      refine z_iconst (pc := 135) cx dX7_stream_135 ?_
                      exact J136 _ _ (bzd (by
                        rw [he2] at c_79
                        try simp only [bzd_0, bzd_n0] at c_79
                        omega)) hm hF
                    · skip
                      refine z_il_10_3 (pc := 125) cx dX7_stream_125 ?_
                      refine z_bipush (pc := 126) cx rfl dX7_stream_126 ?_
                      refine z_icmp_ge (pc := 128) (tgt := 135) cx (by omega) (by decide) dX7_stream_128 (fun c_128 => ?_) (fun c_128 => ?_)
                      · skip
                        refine z_iconst (pc := 135) cx dX7_stream_135 ?_
                        exact J136 _ _ (bzd (by
                          rw [he2] at c_79
                          try simp only [bzd_0, bzd_n0] at c_79
                          omega)) hm hF
                      · skip
                        refine z_iconst (pc := 131) cx dX7_stream_131 ?_
                        refine g_goto (pc := 132) (tgt := 136) cx (by decide) dX7_stream_132 ?_
                        exact J136 _ _ (bzd (by
                          rw [he2] at c_79
                          try simp only [bzd_0, bzd_n0] at c_79
                          omega)) hm hF
              · skip
                refine z_il_10_1 (pc := 106) cx dX7_stream_106 ?_
                refine z_bipush (pc := 107) cx rfl dX7_stream_107 ?_
                refine z_icmp_ne (pc := 109) (tgt := 135) cx (by omega) (by decide) dX7_stream_109 (fun c_109 => ?_) (fun c_109 => ?_)
                · skip
                  refine z_iconst (pc := 135) cx dX7_stream_135 ?_
                  exact J136 _ _ (bzd (by
                    rw [he2] at c_79
                    try simp only [bzd_0, bzd_n0] at c_79
                    omega)) hm hF
                · skip
                  refine z_il_10_2 (pc := 112) cx dX7_stream_112 ?_
                  refine z_if_le (pc := 113) (tgt := 135) cx (by omega) (by decide) dX7_stream_113 (fun c_113 => ?_) (fun c_113 => ?_)
                  · skip
                    refine z_iconst (pc := 135) cx dX7_stream_135 ?_
                    exact J136 _ _ (bzd (by
                      rw [he2] at c_79
                      try simp only [bzd_0, bzd_n0] at c_79
                      omega)) hm hF
                  · skip
                    refine z_il_10_2 (pc := 116) cx dX7_stream_116 ?_
                    refine z_iconst (pc := 117) cx dX7_stream_117 ?_
                    refine z_icmp_ge (pc := 118) (tgt := 135) cx (by omega) (by decide) dX7_stream_118 (fun c_118 => ?_) (fun c_118 => ?_)
                    · skip
                      refine z_iconst (pc := 135) cx dX7_stream_135 ?_
                      exact J136 _ _ (bzd (by
                        rw [he2] at c_79
                        try simp only [bzd_0, bzd_n0] at c_79
                        omega)) hm hF
                    · skip
                      refine z_il_10_3 (pc := 121) cx dX7_stream_121 ?_
                      refine z_if_le (pc := 122) (tgt := 135) cx (by omega) (by decide) dX7_stream_122 (fun c_122 => ?_) (fun c_122 => ?_)
                      · skip
                        refine z_iconst (pc := 135) cx dX7_stream_135 ?_
                        exact J136 _ _ (bzd (by
                          rw [he2] at c_79
                          try simp only [bzd_0, bzd_n0] at c_79
                          omega)) hm hF
                      · skip
                        refine z_il_10_3 (pc := 125) cx dX7_stream_125 ?_
                        refine z_bipush (pc := 126) cx rfl dX7_stream_126 ?_
                        refine z_icmp_ge (pc := 128) (tgt := 135) cx (by omega) (by decide) dX7_stream_128 (fun c_128 => ?_) (fun c_128 => ?_)
                        · skip
                          refine z_iconst (pc := 135) cx dX7_stream_135 ?_
                          exact J136 _ _ (bzd (by
                            rw [he2] at c_79
                            try simp only [bzd_0, bzd_n0] at c_79
                            omega)) hm hF
                        · skip
                          refine z_iconst (pc := 131) cx dX7_stream_131 ?_
                          refine g_goto (pc := 132) (tgt := 136) cx (by decide) dX7_stream_132 ?_
                          exact J136 _ _ (bzd (by
                            rw [he2] at c_79
                            try simp only [bzd_0, bzd_n0] at c_79
                            omega)) hm hF
    refine z_il_10_4 (pc := 43) cx dX7_stream_43 ?_
    refine z_il_10_5 (pc := 45) cx dX7_stream_45 ?_
    refine z_icmp_eq (pc := 47) (tgt := 74) cx (by omega) (by decide) dX7_stream_47 (fun c_47 => ?_) (fun c_47 => ?_)
    · skip
      refine z_iconst (pc := 74) cx dX7_stream_74 ?_
      exact J75 _ _ (bzd (by omega)) hm hF
    · skip
      refine z_il_10_4 (pc := 50) cx dX7_stream_50 ?_
      refine z_il_10_6 (pc := 52) cx dX7_stream_52 ?_
      refine z_icmp_eq (pc := 54) (tgt := 74) cx (by omega) (by decide) dX7_stream_54 (fun c_54 => ?_) (fun c_54 => ?_)
      · skip
        refine z_iconst (pc := 74) cx dX7_stream_74 ?_
        exact J75 _ _ (bzd (by omega)) hm hF
      · skip
        refine z_il_10_5 (pc := 57) cx dX7_stream_57 ?_
        refine z_il_10_6 (pc := 59) cx dX7_stream_59 ?_
        refine z_icmp_ne (pc := 61) (tgt := 70) cx (by omega) (by decide) dX7_stream_61 (fun c_61 => ?_) (fun c_61 => ?_)
        · skip
          refine z_iconst (pc := 70) cx dX7_stream_70 ?_
          refine g_goto (pc := 71) (tgt := 75) cx (by decide) dX7_stream_71 ?_
          exact J75 _ _ (bzd (by omega)) hm hF
        · skip
          refine z_il_10_5 (pc := 64) cx dX7_stream_64 ?_
          refine z_iconst (pc := 66) cx dX7_stream_66 ?_
          refine z_icmp_ne (pc := 67) (tgt := 74) cx (by omega) (by decide) dX7_stream_67 (fun c_67 => ?_) (fun c_67 => ?_)
          · skip
            refine z_iconst (pc := 74) cx dX7_stream_74 ?_
            exact J75 _ _ (bzd (by omega)) hm hF
          · skip
            refine z_iconst (pc := 70) cx dX7_stream_70 ?_
            refine g_goto (pc := 71) (tgt := 75) cx (by decide) dX7_stream_71 ?_
            exact J75 _ _ (bzd (by omega)) hm hF
  refine z_il_10_4 (pc := 0) cx dX7_stream_0 ?_
  refine m_callS (pc := 2) cx lk_X7_93 (c_X7_isLink (by omega)) gy_X7_isLink ⟨⟨by decide, by decide⟩, by decide, by decide⟩ ⟨rfl, rfl⟩ rfl rfl (Nat.le_of_ble_eq_true rfl) dX7_stream_2 ?_
  show G Γ _ _ _ 5 _ (.int (iI _) :: _)
  refine z_if_eq (pc := 5) (tgt := 40) cx (by have := bz_r (decide (0 ≤ a ∧ a < 6)); omega) (by decide) dX7_stream_5 (fun c_5 => ?_) (fun c_5 => ?_)
  · skip
    refine z_iconst (pc := 40) cx dX7_stream_40 ?_
    exact J41 _ σ0 (bzd (by
      try simp only [bzd_0, bzd_n0] at c_5
      try simp only [bzd_0, bzd_n0] at c_19
      try simp only [bzd_0, bzd_n0] at c_33
      try simp only [bzd_0, bzd_n0] at c_79
      omega)) hm hF
  · skip
    refine z_il_10_5 (pc := 8) cx dX7_stream_8 ?_
    refine z_iconst (pc := 10) cx dX7_stream_10 ?_
    refine z_icmp_eq (pc := 11) (tgt := 22) cx (by omega) (by decide) dX7_stream_11 (fun c_11 => ?_) (fun c_11 => ?_)
    · skip
      refine z_il_10_6 (pc := 22) cx dX7_stream_22 ?_
      refine z_iconst (pc := 24) cx dX7_stream_24 ?_
      refine z_icmp_eq (pc := 25) (tgt := 36) cx (by omega) (by decide) dX7_stream_25 (fun c_25 => ?_) (fun c_25 => ?_)
      · skip
        refine z_iconst (pc := 36) cx dX7_stream_36 ?_
        refine g_goto (pc := 37) (tgt := 41) cx (by decide) dX7_stream_37 ?_
        exact J41 _ σ0 (bzd (by
          try simp only [bzd_0, bzd_n0] at c_5
          try simp only [bzd_0, bzd_n0] at c_19
          try simp only [bzd_0, bzd_n0] at c_33
          try simp only [bzd_0, bzd_n0] at c_79
          omega)) hm hF
      · skip
        refine z_il_10_6 (pc := 28) cx dX7_stream_28 ?_
        refine m_callS (pc := 30) cx lk_X7_93 (c_X7_isLink (by omega)) gy_X7_isLink ⟨⟨by decide, by decide⟩, by decide, by decide⟩ ⟨rfl, rfl⟩ rfl rfl (Nat.le_of_ble_eq_true rfl) dX7_stream_30 ?_
        show G Γ _ _ _ 33 _ (.int (iI _) :: _)
        refine z_if_eq (pc := 33) (tgt := 40) cx (by have := bz_r (decide (0 ≤ c ∧ c < 6)); omega) (by decide) dX7_stream_33 (fun c_33 => ?_) (fun c_33 => ?_)
        · skip
          refine z_iconst (pc := 40) cx dX7_stream_40 ?_
          exact J41 _ σ0 (bzd (by
            try simp only [bzd_0, bzd_n0] at c_5
            try simp only [bzd_0, bzd_n0] at c_19
            try simp only [bzd_0, bzd_n0] at c_33
            try simp only [bzd_0, bzd_n0] at c_79
            omega)) hm hF
        · skip
          refine z_iconst (pc := 36) cx dX7_stream_36 ?_
          refine g_goto (pc := 37) (tgt := 41) cx (by decide) dX7_stream_37 ?_
          exact J41 _ σ0 (bzd (by
            try simp only [bzd_0, bzd_n0] at c_5
            try simp only [bzd_0, bzd_n0] at c_19
            try simp only [bzd_0, bzd_n0] at c_33
            try simp only [bzd_0, bzd_n0] at c_79
            omega)) hm hF
    · skip
      refine z_il_10_5 (pc := 14) cx dX7_stream_14 ?_
      refine m_callS (pc := 16) cx lk_X7_93 (c_X7_isLink (by omega)) gy_X7_isLink ⟨⟨by decide, by decide⟩, by decide, by decide⟩ ⟨rfl, rfl⟩ rfl rfl (Nat.le_of_ble_eq_true rfl) dX7_stream_16 ?_
      show G Γ _ _ _ 19 _ (.int (iI _) :: _)
      refine z_if_eq (pc := 19) (tgt := 40) cx (by have := bz_r (decide (0 ≤ b ∧ b < 6)); omega) (by decide) dX7_stream_19 (fun c_19 => ?_) (fun c_19 => ?_)
      · skip
        refine z_iconst (pc := 40) cx dX7_stream_40 ?_
        exact J41 _ σ0 (bzd (by
          try simp only [bzd_0, bzd_n0] at c_5
          try simp only [bzd_0, bzd_n0] at c_19
          try simp only [bzd_0, bzd_n0] at c_33
          try simp only [bzd_0, bzd_n0] at c_79
          omega)) hm hF
      · skip
        refine z_il_10_6 (pc := 22) cx dX7_stream_22 ?_
        refine z_iconst (pc := 24) cx dX7_stream_24 ?_
        refine z_icmp_eq (pc := 25) (tgt := 36) cx (by omega) (by decide) dX7_stream_25 (fun c_25 => ?_) (fun c_25 => ?_)
        · skip
          refine z_iconst (pc := 36) cx dX7_stream_36 ?_
          refine g_goto (pc := 37) (tgt := 41) cx (by decide) dX7_stream_37 ?_
          exact J41 _ σ0 (bzd (by
            try simp only [bzd_0, bzd_n0] at c_5
            try simp only [bzd_0, bzd_n0] at c_19
            try simp only [bzd_0, bzd_n0] at c_33
            try simp only [bzd_0, bzd_n0] at c_79
            omega)) hm hF
        · skip
          refine z_il_10_6 (pc := 28) cx dX7_stream_28 ?_
          refine m_callS (pc := 30) cx lk_X7_93 (c_X7_isLink (by omega)) gy_X7_isLink ⟨⟨by decide, by decide⟩, by decide, by decide⟩ ⟨rfl, rfl⟩ rfl rfl (Nat.le_of_ble_eq_true rfl) dX7_stream_30 ?_
          show G Γ _ _ _ 33 _ (.int (iI _) :: _)
          refine z_if_eq (pc := 33) (tgt := 40) cx (by have := bz_r (decide (0 ≤ c ∧ c < 6)); omega) (by decide) dX7_stream_33 (fun c_33 => ?_) (fun c_33 => ?_)
          · skip
            refine z_iconst (pc := 40) cx dX7_stream_40 ?_
            exact J41 _ σ0 (bzd (by
              try simp only [bzd_0, bzd_n0] at c_5
              try simp only [bzd_0, bzd_n0] at c_19
              try simp only [bzd_0, bzd_n0] at c_33
              try simp only [bzd_0, bzd_n0] at c_79
              omega)) hm hF
          · skip
            refine z_iconst (pc := 36) cx dX7_stream_36 ?_
            refine g_goto (pc := 37) (tgt := 41) cx (by decide) dX7_stream_37 ?_
            exact J41 _ σ0 (bzd (by
              try simp only [bzd_0, bzd_n0] at c_5
              try simp only [bzd_0, bzd_n0] at c_19
              try simp only [bzd_0, bzd_n0] at c_33
              try simp only [bzd_0, bzd_n0] at c_79
              omega)) hm hF

set_option maxRecDepth 100000 in
set_option maxHeartbeats 4000000 in
theorem c_X7_build {lc : Launch} {dA : Nat → ClassId} {ad : Nat → Nat} {σ0 : hS} {h : Nat} {S : mS} (hm : mat dA ad σ0 h S) {most : Int} (hmo : -2147483648 ≤ most ∧ most ≤ 2147483647) (hn : 0 ≤ S 2 0 ∧ S 2 0 ≤ 5) (hs : ∀ i, 0 ≤ i → i < S 2 0 → mSt S i) (hd : mDl S) : gM lc dA yX7_build (.code yX7_build cX7_build 4 (some .int)) { frames := 4, cells := 0, slots := 0, locals := 97 } σ0 [.ref h, .int (iI most)] (mP dA ad h σ0 (some (.int (iI (bldR S most)))) (bldS S most)) nX := by
  refine gM_body (by decide +kernel) (by simp [Value.category]) (Nat.le_of_ble_eq_true rfl) (fun Γ hdA cx rx nx => ?_)
  subst hdA
  have cx : CX lc Γ cX7_build RX7 4 { frames := 4, cells := 0, slots := 0, locals := 97 } := cx
  show G Γ σ0 0 0 0 [some (.ref h), some (.int (iI most)), none, none] []
  have hF : mFr ad h σ0 σ0 := mFr.rf
  have J17 : ∀ (e : Int) (σ : hS), e = thBd most → mat (gdA Γ) ad σ h S → mFr ad h σ0 σ → G Γ σ 0 0 17 [some (.ref h), some (.int (iI (most))), none, none] [.int (iI e), .ref h] := by
    intro e σ he hm hF
    have her : 0 ≤ e ∧ e ≤ 1 := by rw [he]; unfold thBd; split <;> omega
    refine m_put (pc := 17) cx hm hF fl_X7_89 ⟨rfl, rfl, by decide, rfl⟩ (mFs_0 _ _ _) dX7_build_17 ?_
    intro σ hm hF
    refine z_al_4_0 (pc := 20) cx dX7_build_20 ?_
    refine m_get (pc := 21) cx hm fl_X7_89 rfl dX7_build_21 ?_
    refine z_if_le (pc := 24) (tgt := 29) cx (by rw [mw_s]; omega) (by decide) dX7_build_24 (fun c_24 => ?_) (fun c_24 => ?_)
    · skip
      rw [mw_s] at c_24
      have hmo2 : 0 ≤ most ∧ most ≤ 20000 := by rw [he] at c_24; unfold thBd at c_24; split at c_24 <;> omega
      have he0 : e = 0 := by omega
      subst he0
      refine z_al_4_0 (pc := 29) cx dX7_build_29 ?_
      refine z_iconst (pc := 30) cx dX7_build_30 ?_
      refine m_put (pc := 31) cx hm hF fl_X7_118 ⟨rfl, rfl, by decide, rfl⟩ (mFs_13 _ _ _) dX7_build_31 ?_
      intro σ hm hF
      refine z_iconst (pc := 34) cx dX7_build_34 ?_
      refine z_is_4_2 (pc := 35) cx dX7_build_35 ?_
      refine z_iconst (pc := 36) cx dX7_build_36 ?_
      refine z_is_4_3 (pc := 37) cx dX7_build_37 ?_
      have J38 : ∀ (n k : Nat) (σ : hS), k + n = 5 → mat (gdA Γ) ad σ h (itN k (fun T k => mw T 14 (k : Int) (-1)) (mw (mw S 0 0 0) 13 0 0)) → mFr ad h σ0 σ → G Γ σ 0 0 38 [some (.ref h), some (.int (iI (most))), some (.int (iI (0))), some (.int (iI ((k : Int))))] [] := by
        intro n
        induction n using Nat.strongRecOn with
        | _ n ih =>
        intro k σ hkn hm hF
        refine z_il_4_3 (pc := 38) cx dX7_build_38 ?_
        refine z_iconst (pc := 39) cx dX7_build_39 ?_
        refine z_icmp_ge (pc := 40) (tgt := 56) cx (by omega) (by decide) dX7_build_40 (fun c_40 => ?_) (fun c_40 => ?_)
        · obtain rfl : k = 5 := by omega
          have J56 : ∀ (n : Nat) (i : Int) (T : mS) (x3 : Option Value) (σ : hS), 2 * (most - T 13 0) + i + 2 ≤ (n : Int) → (-1 ≤ i ∧ i ≤ S 2 0) → BW S T most → bl most n T i = blR S most → mat (gdA Γ) ad σ h T → mFr ad h σ0 σ → G Γ σ 0 0 56 [some (.ref h), some (.int (iI (most))), some (.int (iI (i))), x3] [] := by
            clear ih
            intro n
            induction n using Nat.strongRecOn with
            | _ n ih =>
            intro i T x3 σ hme hi hB hR hm hF
            obtain ⟨bA, bB, bC⟩ := id hB
            have e2 := congrFun (bA 2 (by decide) (by decide) (by decide)) 0
            obtain ⟨n1, rfl⟩ : ∃ n1, n = n1 + 1 := ⟨n - 1, by omega⟩
            rw [bl] at hR
            refine z_il_4_2 (pc := 56) cx dX7_build_56 ?_
            have J145 : ∀ (σ : hS), ¬ (0 ≤ i ∧ i < S 2 0) → mat (gdA Γ) ad σ h T → mFr ad h σ0 σ → G Γ σ 0 0 145 [some (.ref h), some (.int (iI (most))), some (.int (iI (i))), x3] [] := by
              intro σ hni hm hF
              rw [if_pos (by omega)] at hR
              refine z_il_4_2 (pc := 145) cx dX7_build_145 ?_
              refine z_if_ge (pc := 146) (tgt := 151) cx (by omega) (by decide) dX7_build_146 (fun c_146 => ?_) (fun c_146 => ?_)
              · skip
                refine z_al_4_0 (pc := 151) cx dX7_build_151 ?_
                refine m_callV (pc := 152) cx lk_X7_124 (c_X7_keep hm (by rw [e2]; exact hn) (BW_st hs hB)) hm hF rfl gy_X7_keep ⟨⟨by decide, by decide⟩, by decide, by decide⟩ ⟨rfl, rfl⟩ rfl rfl (Nat.le_of_ble_eq_true rfl) dX7_build_152 ?_
                intro σ hm hF
                show G Γ _ _ _ 155 _ _
                refine z_iconst (pc := 155) cx dX7_build_155 ?_
                rw [if_neg (by omega)] at hR
                exact z_ret (pc := 156) cx rx (by decide) (by decide) dX7_build_156 ⟨by rw [bldR, ← he, if_pos rfl, ← hR], by unfold bldS; rw [← he, if_pos rfl, ← hR]; exact hm, hF⟩
              · skip
                refine z_iconst (pc := 149) cx dX7_build_149 ?_
                rw [if_pos c_146] at hR
                exact z_ret (pc := 150) cx rx (by decide) (by decide) dX7_build_150 ⟨by rw [bldR, ← he, if_pos rfl, ← hR], by unfold bldS; rw [← he, if_pos rfl, ← hR]; exact hm, hF⟩
            refine z_if_lt (pc := 57) (tgt := 145) cx (by omega) (by decide) dX7_build_57 (fun c_57 => ?_) (fun c_57 => ?_)
            · skip
              exact J145 σ (by omega) hm hF
            · skip
              refine z_il_4_2 (pc := 60) cx dX7_build_60 ?_
              refine z_al_4_0 (pc := 61) cx dX7_build_61 ?_
              refine m_get (pc := 62) cx hm fl_X7_97 rfl dX7_build_62 ?_
              refine z_icmp_ge (pc := 65) (tgt := 145) cx (by omega) (by decide) dX7_build_65 (fun c_65 => ?_) (fun c_65 => ?_)
              · skip
                exact J145 σ (by omega) hm hF
              · skip
                have hi0 : 0 ≤ i ∧ i < S 2 0 := by omega
                obtain ⟨i1, rfl⟩ : ∃ i1 : Nat, i = (i1 : Int) := ⟨i.toNat, by omega⟩
                have hbC := bC (i1 : Int) (by omega) (by omega)
                have hsi := hs (i1 : Int) hi0.1 hi0.2
                have e3 := congrFun (bA 3 (by decide) (by decide) (by decide)) (i1 : Int)
                have h83 := hsi.1
                refine z_al_4_0 (pc := 68) cx dX7_build_68 ?_
                refine m_get (pc := 69) cx hm fl_X7_43 rfl dX7_build_69 ?_
                refine z_il_4_2 (pc := 72) cx dX7_build_72 ?_
                refine g_dup2 (pc := 73) cx rfl rfl dX7_build_73 ?_
                refine m_iald (pc := 74) (k := 14) (L := 5) cx hm ⟨rfl, rfl, by decide, by decide⟩ dX7_build_74 (by omega) ?_
                refine z_iconst (pc := 75) cx dX7_build_75 ?_
                refine z_iadd (pc := 76) cx dX7_build_76 ?_
                refine m_iast (pc := 77) (k := 14) (L := 5) cx hm hF ⟨rfl, rfl, by decide, by decide⟩ dX7_build_77 (by omega) ?_
                intro σ hm hF
                refine z_al_4_0 (pc := 78) cx dX7_build_78 ?_
                refine m_get (pc := 79) cx hm fl_X7_43 rfl dX7_build_79 ?_
                refine z_il_4_2 (pc := 82) cx dX7_build_82 ?_
                refine m_iald (pc := 83) (k := 14) (L := 5) cx hm ⟨rfl, rfl, by decide, by decide⟩ dX7_build_83 (by omega) ?_
                refine z_al_4_0 (pc := 84) cx dX7_build_84 ?_
                refine m_get (pc := 85) cx hm fl_X7_13 rfl dX7_build_85 ?_
                refine z_il_4_2 (pc := 88) cx dX7_build_88 ?_
                refine m_iald (pc := 89) (k := 3) (L := 5) cx hm ⟨rfl, rfl, by decide, by decide⟩ dX7_build_89 (by omega) ?_
                refine z_icmp_ne (pc := 90) (tgt := 106) cx (by rw [mw_s]; show zR (T 14 (i1 : Int) + 1) (T 3 (i1 : Int)); omega) (by decide) dX7_build_90 (fun c_90 => ?_) (fun c_90 => ?_)
                · skip
                  have k90 : ¬ T 14 (i1 : Int) + 1 = T 3 (i1 : Int) := by rw [mw_s, mw_k (by decide)] at c_90; exact c_90
                  refine z_al_4_0 (pc := 106) cx dX7_build_106 ?_
                  refine m_get (pc := 107) cx hm fl_X7_118 rfl dX7_build_107 ?_
                  refine z_il_4_1 (pc := 110) cx dX7_build_110 ?_
                  refine z_icmp_ne (pc := 111) (tgt := 116) cx (by show zR (T 13 0) most; omega) (by decide) dX7_build_111 (fun c_111 => ?_) (fun c_111 => ?_)
                  · skip
                    have k111 : ¬ T 13 0 = most := by rw [mw_k (by decide)] at c_111; exact c_111
                    have hB2 := BW_next hB hi0 (by rw [mw_s] at c_90; exact c_90) c_111 (by omega)
                    refine z_al_4_0 (pc := 116) cx dX7_build_116 ?_
                    refine g_dup (pc := 117) cx rfl dX7_build_117 ?_
                    refine m_get (pc := 118) cx hm fl_X7_118 rfl dX7_build_118 ?_
                    refine z_iconst (pc := 121) cx dX7_build_121 ?_
                    refine z_iadd (pc := 122) cx dX7_build_122 ?_
                    refine m_put (pc := 123) cx hm hF fl_X7_118 ⟨rfl, rfl, by decide, rfl⟩ (mFs_13 _ _ _) dX7_build_123 ?_
                    intro σ hm hF
                    have hm : mat (gdA Γ) ad σ h (mw (mw T 14 (i1 : Int) (T 14 (i1 : Int) + 1)) 13 0 (T 13 0 + 1)) := hm
                    refine z_al_4_0 (pc := 126) cx dX7_build_126 ?_
                    refine z_il_4_2 (pc := 127) cx dX7_build_127 ?_
                    refine m_callV (pc := 128) cx lk_X7_121 (c_X7_isGood hm (i := i1) (by omega) (BW_good hs hB2 hi0 hn.2) (BW_dl hd hB2)) hm hF rfl gy_X7_isGood ⟨⟨by decide, by decide⟩, by decide, by decide⟩ ⟨rfl, rfl⟩ rfl rfl (Nat.le_of_ble_eq_true rfl) dX7_build_128 ?_
                    intro σ hm hF
                    show G Γ _ _ _ 131 _ (.int (iI _) :: _)
                    refine z_if_eq (pc := 131) (tgt := 140) cx (by have := bz_r (goodF (mw (mw T 14 (i1 : Int) (T 14 (i1 : Int) + 1)) 13 0 (T 13 0 + 1)) i1); omega) (by decide) dX7_build_131 (fun c_131 => ?_) (fun c_131 => ?_)
                    · skip
                      have hgd : ¬ goodF (mw (mw T 14 (i1 : Int) (T 14 (i1 : Int) + 1)) 13 0 (T 13 0 + 1)) (i1 : Int).toNat = true := by rw [Int.toNat_natCast, bz_0.mp c_131]; decide
                      refine z_il_4_2 (pc := 140) cx dX7_build_140 ?_
                      refine z_is_4_2 (pc := 141) cx dX7_build_141 ?_
                      refine g_goto (pc := 142) (tgt := 56) cx (by decide) dX7_build_142 ?_
                      first
                      | exact ih n1 (by omega) _ _ _ σ (by show 2 * (most - T 13 0) + ((i1 : Int) + -1) + 2 ≤ _; omega) (by omega) (BW_back hB hi0 c_90) (by rw [if_neg (by omega), if_pos k90] at hR; exact hR) hm hF
                      | exact ih n1 (by omega) _ _ _ σ (by show 2 * (most - (T 13 0 + 1)) + ((i1 : Int) + 1) + 2 ≤ _; omega) (by omega) hB2 (by rw [if_neg (by omega), if_neg k90, if_neg k111, if_pos hgd] at hR; exact hR) hm hF
                      | exact ih n1 (by omega) _ _ _ σ (by show 2 * (most - (T 13 0 + 1)) + (i1 : Int) + 2 ≤ _; omega) (by omega) hB2 (by rw [if_neg (by omega), if_neg k90, if_neg k111, if_neg hgd] at hR; exact hR) hm hF
                    · skip
                      have hgd : goodF (mw (mw T 14 (i1 : Int) (T 14 (i1 : Int) + 1)) 13 0 (T 13 0 + 1)) (i1 : Int).toNat = true := by rw [Int.toNat_natCast]; exact bz_n0.mp c_131
                      refine z_il_4_2 (pc := 134) cx dX7_build_134 ?_
                      refine z_iconst (pc := 135) cx dX7_build_135 ?_
                      refine z_iadd (pc := 136) cx dX7_build_136 ?_
                      refine g_goto (pc := 137) (tgt := 141) cx (by decide) dX7_build_137 ?_
                      refine z_is_4_2 (pc := 141) cx dX7_build_141 ?_
                      refine g_goto (pc := 142) (tgt := 56) cx (by decide) dX7_build_142 ?_
                      first
                      | exact ih n1 (by omega) _ _ _ σ (by show 2 * (most - T 13 0) + ((i1 : Int) + -1) + 2 ≤ _; omega) (by omega) (BW_back hB hi0 c_90) (by rw [if_neg (by omega), if_pos k90] at hR; exact hR) hm hF
                      | exact ih n1 (by omega) _ _ _ σ (by show 2 * (most - (T 13 0 + 1)) + ((i1 : Int) + 1) + 2 ≤ _; omega) (by omega) hB2 (by rw [if_neg (by omega), if_neg k90, if_neg k111, if_pos hgd] at hR; exact hR) hm hF
                      | exact ih n1 (by omega) _ _ _ σ (by show 2 * (most - (T 13 0 + 1)) + (i1 : Int) + 2 ≤ _; omega) (by omega) hB2 (by rw [if_neg (by omega), if_neg k90, if_neg k111, if_neg hgd] at hR; exact hR) hm hF
                  · skip
                    have k111 : T 13 0 = most := by rw [mw_k (by decide)] at c_111; exact c_111
                    refine z_iconst (pc := 114) cx dX7_build_114 ?_
                    rw [if_neg (by omega), if_neg k90, if_pos k111] at hR
                    exact z_ret (pc := 115) cx rx (by decide) (by decide) dX7_build_115 ⟨by rw [bldR, ← he, if_pos rfl, ← hR], by unfold bldS; rw [← he, if_pos rfl, ← hR]; exact hm, hF⟩
                · skip
                  have k90 : T 14 (i1 : Int) + 1 = T 3 (i1 : Int) := by rw [mw_s, mw_k (by decide)] at c_90; exact c_90
                  refine z_al_4_0 (pc := 93) cx dX7_build_93 ?_
                  refine m_get (pc := 94) cx hm fl_X7_43 rfl dX7_build_94 ?_
                  refine z_il_4_2 (pc := 97) cx dX7_build_97 ?_
                  refine z_iconst (pc := 98) cx dX7_build_98 ?_
                  refine m_iast (pc := 99) (k := 14) (L := 5) cx hm hF ⟨rfl, rfl, by decide, by decide⟩ dX7_build_99 (by omega) ?_
                  intro σ hm hF
                  refine z_ii_4_2 (pc := 100) cx dX7_build_100 ?_
                  refine g_goto (pc := 103) (tgt := 56) cx (by decide) dX7_build_103 ?_
                  first
                  | exact ih n1 (by omega) _ _ _ σ (by show 2 * (most - T 13 0) + ((i1 : Int) + -1) + 2 ≤ _; omega) (by omega) (BW_back hB hi0 c_90) (by rw [if_neg (by omega), if_pos k90] at hR; exact hR) hm hF
                  | exact ih n1 (by omega) _ _ _ σ (by show 2 * (most - (T 13 0 + 1)) + ((i1 : Int) + 1) + 2 ≤ _; omega) (by omega) hB2 (by rw [if_neg (by omega), if_neg k90, if_neg k111, if_pos hgd] at hR; exact hR) hm hF
                  | exact ih n1 (by omega) _ _ _ σ (by show 2 * (most - (T 13 0 + 1)) + (i1 : Int) + 2 ≤ _; omega) (by omega) hB2 (by rw [if_neg (by omega), if_neg k90, if_neg k111, if_neg hgd] at hR; exact hR) hm hF
          exact J56 (2 * most.toNat + 8) 0 (bl0 S) _ σ (by show 2 * (most - 0) + 0 + 2 ≤ _; omega) (by omega) (bl0_ok hs hmo2.1) rfl (by exact hm) hF
        · skip
          refine z_al_4_0 (pc := 43) cx dX7_build_43 ?_
          refine m_get (pc := 44) cx hm fl_X7_43 rfl dX7_build_44 ?_
          refine z_il_4_3 (pc := 47) cx dX7_build_47 ?_
          refine z_iconst (pc := 48) cx dX7_build_48 ?_
          refine m_iast (pc := 49) (k := 14) (L := 5) cx hm hF ⟨rfl, rfl, by decide, by decide⟩ dX7_build_49 (by omega) ?_
          intro σ hm hF
          refine z_ii_4_3 (pc := 50) cx dX7_build_50 ?_
          refine g_goto (pc := 53) (tgt := 38) cx (by decide) dX7_build_53 ?_
          exact ih (n - 1) (by omega) (k + 1) σ (by omega) hm hF
      exact J38 5 0 σ rfl hm hF
    · skip
      refine z_iconst (pc := 27) cx dX7_build_27 ?_
      rw [mw_s] at c_24
      exact z_ret (pc := 28) cx rx (by decide) (by decide) dX7_build_28 ⟨by rw [bldR, ← he, if_neg (by omega)], by unfold bldS; rw [← he, if_neg (by omega)]; exact hm, hF⟩
  refine z_al_4_0 (pc := 0) cx dX7_build_0 ?_
  refine z_il_4_1 (pc := 1) cx dX7_build_1 ?_
  refine z_if_lt (pc := 2) (tgt := 12) cx (by omega) (by decide) dX7_build_2 (fun c_2 => ?_) (fun c_2 => ?_)
  · skip
    refine z_iconst (pc := 12) cx dX7_build_12 ?_
    refine g_goto (pc := 13) (tgt := 17) cx (by decide) dX7_build_13 ?_
    exact J17 _ _ (by unfold thBd; split <;> omega) hm hF
  · skip
    refine z_il_4_1 (pc := 5) cx dX7_build_5 ?_
    refine z_sipush (pc := 6) cx rfl dX7_build_6 ?_
    refine z_icmp_le (pc := 9) (tgt := 16) cx (by omega) (by decide) dX7_build_9 (fun c_9 => ?_) (fun c_9 => ?_)
    · skip
      refine z_iconst (pc := 16) cx dX7_build_16 ?_
      exact J17 _ _ (by unfold thBd; split <;> omega) hm hF
    · skip
      refine z_iconst (pc := 12) cx dX7_build_12 ?_
      refine g_goto (pc := 13) (tgt := 17) cx (by decide) dX7_build_13 ?_
      exact J17 _ _ (by unfold thBd; split <;> omega) hm hF
