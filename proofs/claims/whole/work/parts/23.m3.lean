def f_X10_work (N : Nat) (rc : St → Int32 → Int32 → Int32 → Int32 → Option (Int32 × St)) (S : St) (v1 : Int32) (v2 : Int32) (v3 : Int32) (v4 : Int32) : Option (Int32 × St) :=
 (if v1 = 10 then
 some ((v3 + (S.1 154 3)), S)
 else
 (if v1 = 11 then
 bnd2 (rc S (S.1 154 2) (0 : Int32) v3 v4) (fun a16 S17 =>
 some ((a16 * (2 : Int32)), S17))
 else
 (if v1 = 12 then
 bnd2 (rc S (S.1 154 2) (1 : Int32) v3 v4) (fun a19 S20 =>
 some ((a19 - (S20.1 154 4)), S20))
 else
 (if v1 = 13 then
 bnd2 (f_X10_minded S v3) (fun a22 S23 =>
 some (a22, S23))
 else
 (if v1 = 20 then
 bnd2 (rc S v2 (0 : Int32) v3 v4) (fun a25 S26 =>
 some ((a25 + (5 : Int32)), S26))
 else
 (if v1 = 21 then
 bnd2 (rc S v2 (3 : Int32) v3 v4) (fun a28 S29 =>
 bnd2 (rc S29 (S29.1 154 2) (1 : Int32) (1 : Int32) v4) (fun a31 S32 =>
 some ((a28 + a31), S32)))
 else
 (if v1 = 30 then
 bnd2 (rc S v2 (1 : Int32) v3 v4) (fun a34 S35 =>
 some (((0 : Int32) - a34), S35))
 else
 (if v1 = 40 then
 bnd2 (rc S v2 (0 : Int32) (v3 / (2 : Int32)) v4) (fun a37 S38 =>
 some (a37, S38))
 else
 (if v1 = 41 then
 bnd2 (rc S v2 (2 : Int32) v3 v4) (fun a40 S41 =>
 some ((a40 ^^^ (S41.1 154 3)), S41))
 else
 (if v1 = 50 then
 bnd2 (rc S v2 (2 : Int32) (v3 + (1 : Int32)) v4) (fun a43 S44 =>
 some (a43, S44))
 else
 (if v1 = 60 then
 bnd2 (rc S v2 (0 : Int32) v3 v4) (fun a46 S47 =>
 some ((a46 * (3 : Int32)), S47))
 else
 (if v1 = 61 then
 bnd2 (rc S v2 (3 : Int32) v3 v4) (fun a49 S50 =>
 bnd2 (rc S50 (S50.1 154 2) (2 : Int32) (0 : Int32) v4) (fun a52 S53 =>
 some ((a49 - a52), S53)))
 else
 (if v1 = 70 then
 some ((8 : Int32), S)
 else
 (if v1 = 71 then
 bnd2 (rc S v2 (1 : Int32) v3 v4) (fun a55 S56 =>
 some ((a55 + (S56.1 154 3)), S56))
 else
 some ((0 : Int32), S)))))))))))))))
set_option maxRecDepth 20000 in
theorem v_X10_work_e {ε : eT} {κ : kT} {N : Nat} {rc : St → Int32 → Int32 → Int32 → Int32 → Option (Int32 × St)} {e : Nat} (C : Act ε κ cX10_work 5 RX10 (e + 1)) {S : St} {res : (Int32 × St)} (X : RI ε κ (some .int) (some (.int res.1)) res.2) (hrc : ∀ (S : St) (v1 : Int32) (v2 : Int32) (v3 : Int32) (v4 : Int32) (res : (Int32 × St)), rc S v1 v2 v3 v4 = some res → CI ε yX10_say cX10_say 7 (some .int) e [.ref (eA ε 154), .int v1, .int v2, .int v3, .int v4] S (some (.int res.1)) res.2) (he : 8 ≤ e) {v1 : Int32} {v2 : Int32} {v3 : Int32} {v4 : Int32} (h : f_X10_work N rc S v1 v2 v3 v4 = some res) : V ε κ 5 0 [(0, .ref (eA ε 154)), (1, .int v1), (2, .int v2), (3, .int v3), (4, .int v4)] [] (wsOf ε S) 0 0 := by
  unfold f_X10_work at h
  refine V_iload_n C 1 dX10_work_0 rfl rfl ?_
  by_cases c1 : v1 = 10
  · replace h := ifp c1 h
    refine V_lookup C dX10_work_1 (by decide +kernel) (off := 123) (by rw [c1]; decide +kernel) (tgt := 124) rfl ?_
    refine V_iload_n C 3 dX10_work_124 rfl rfl ?_
    refine V_aload_n C 0 dX10_work_125 rfl rfl ?_
    refine G_X10_n (q := 154) C sk_154 q_FL_X10_38 dX10_work_126 ?_
    refine V_iadd C dX10_work_129 ?_
    exact V_iret C X dX10_work_130 ⟨ri_1 h, ri_2 h⟩
  · replace h := ifn c1 h
    by_cases c2 : v1 = 11
    · replace h := ifp c2 h
      refine V_lookup C dX10_work_1 (by decide +kernel) (off := 130) (by rw [c2]; decide +kernel) (tgt := 131) rfl ?_
      refine V_aload_n C 0 dX10_work_131 rfl rfl ?_
      refine V_aload_n C 0 dX10_work_132 rfl rfl ?_
      refine G_X10_kind (q := 154) C sk_154 q_FL_X10_34 dX10_work_133 ?_
      refine V_iconst C dX10_work_136 kc_i_0 ?_
      refine V_iload_n C 3 dX10_work_137 rfl rfl ?_
      refine V_iload C 4 dX10_work_138 rfl ?_
      obtain ⟨a16, S17, e15, h⟩ := bnd2_s h
      refine W_callvi C cf_X10_say (hrc _ _ _ _ _ _ e15) q_ML_X10_47 (ws_X10 sk_154) rfl dX10_work_140 (by omega) rfl rfl (Nat.le_of_ble_eq_true rfl) ?_
      refine V_iconst C dX10_work_143 kc_i_2 ?_
      refine V_imul C dX10_work_144 ?_
      exact V_iret C X dX10_work_145 ⟨ri_1 h, ri_2 h⟩
    · replace h := ifn c2 h
      by_cases c3 : v1 = 12
      · replace h := ifp c3 h
        refine V_lookup C dX10_work_1 (by decide +kernel) (off := 145) (by rw [c3]; decide +kernel) (tgt := 146) rfl ?_
        refine V_aload_n C 0 dX10_work_146 rfl rfl ?_
        refine V_aload_n C 0 dX10_work_147 rfl rfl ?_
        refine G_X10_kind (q := 154) C sk_154 q_FL_X10_34 dX10_work_148 ?_
        refine V_iconst C dX10_work_151 kc_i_1 ?_
        refine V_iload_n C 3 dX10_work_152 rfl rfl ?_
        refine V_iload C 4 dX10_work_153 rfl ?_
        obtain ⟨a19, S20, e18, h⟩ := bnd2_s h
        refine W_callvi C cf_X10_say (hrc _ _ _ _ _ _ e18) q_ML_X10_47 (ws_X10 sk_154) rfl dX10_work_155 (by omega) rfl rfl (Nat.le_of_ble_eq_true rfl) ?_
        refine V_aload_n C 0 dX10_work_158 rfl rfl ?_
        refine G_X10_p (q := 154) C sk_154 q_FL_X10_44 dX10_work_159 ?_
        refine V_isub C dX10_work_162 ?_
        exact V_iret C X dX10_work_163 ⟨ri_1 h, ri_2 h⟩
      · replace h := ifn c3 h
        by_cases c4 : v1 = 13
        · replace h := ifp c4 h
          refine V_lookup C dX10_work_1 (by decide +kernel) (off := 163) (by rw [c4]; decide +kernel) (tgt := 164) rfl ?_
          refine V_aload_n C 0 dX10_work_164 rfl rfl ?_
          refine V_iload_n C 3 dX10_work_165 rfl rfl ?_
          obtain ⟨a22, S23, e21, h⟩ := bnd2_s h
          refine W_callvi C cf_X10_minded (c_X10_minded e21) q_ML_X10_66 (ws_X10 sk_154) rfl dX10_work_166 (by omega) rfl rfl (Nat.le_of_ble_eq_true rfl) ?_
          exact V_iret C X dX10_work_169 ⟨ri_1 h, ri_2 h⟩
        · replace h := ifn c4 h
          by_cases c5 : v1 = 20
          · replace h := ifp c5 h
            refine V_lookup C dX10_work_1 (by decide +kernel) (off := 169) (by rw [c5]; decide +kernel) (tgt := 170) rfl ?_
            refine V_aload_n C 0 dX10_work_170 rfl rfl ?_
            refine V_iload_n C 2 dX10_work_171 rfl rfl ?_
            refine V_iconst C dX10_work_172 kc_i_0 ?_
            refine V_iload_n C 3 dX10_work_173 rfl rfl ?_
            refine V_iload C 4 dX10_work_174 rfl ?_
            obtain ⟨a25, S26, e24, h⟩ := bnd2_s h
            refine W_callvi C cf_X10_say (hrc _ _ _ _ _ _ e24) q_ML_X10_47 (ws_X10 sk_154) rfl dX10_work_176 (by omega) rfl rfl (Nat.le_of_ble_eq_true rfl) ?_
            refine V_iconst C dX10_work_179 kc_i_5 ?_
            refine V_iadd C dX10_work_180 ?_
            exact V_iret C X dX10_work_181 ⟨ri_1 h, ri_2 h⟩
          · replace h := ifn c5 h
            by_cases c6 : v1 = 21
            · replace h := ifp c6 h
              refine V_lookup C dX10_work_1 (by decide +kernel) (off := 181) (by rw [c6]; decide +kernel) (tgt := 182) rfl ?_
              refine V_aload_n C 0 dX10_work_182 rfl rfl ?_
              refine V_iload_n C 2 dX10_work_183 rfl rfl ?_
              refine V_iconst C dX10_work_184 kc_i_3 ?_
              refine V_iload_n C 3 dX10_work_185 rfl rfl ?_
              refine V_iload C 4 dX10_work_186 rfl ?_
              obtain ⟨a28, S29, e27, h⟩ := bnd2_s h
              refine W_callvi C cf_X10_say (hrc _ _ _ _ _ _ e27) q_ML_X10_47 (ws_X10 sk_154) rfl dX10_work_188 (by omega) rfl rfl (Nat.le_of_ble_eq_true rfl) ?_
              refine V_aload_n C 0 dX10_work_191 rfl rfl ?_
              refine V_aload_n C 0 dX10_work_192 rfl rfl ?_
              refine G_X10_kind (q := 154) C sk_154 q_FL_X10_34 dX10_work_193 ?_
              refine V_iconst C dX10_work_196 kc_i_1 ?_
              refine V_iconst C dX10_work_197 kc_i_1 ?_
              refine V_iload C 4 dX10_work_198 rfl ?_
              obtain ⟨a31, S32, e30, h⟩ := bnd2_s h
              refine W_callvi C cf_X10_say (hrc _ _ _ _ _ _ e30) q_ML_X10_47 (ws_X10 sk_154) rfl dX10_work_200 (by omega) rfl rfl (Nat.le_of_ble_eq_true rfl) ?_
              refine V_iadd C dX10_work_203 ?_
              exact V_iret C X dX10_work_204 ⟨ri_1 h, ri_2 h⟩
            · replace h := ifn c6 h
              by_cases c7 : v1 = 30
              · replace h := ifp c7 h
                refine V_lookup C dX10_work_1 (by decide +kernel) (off := 204) (by rw [c7]; decide +kernel) (tgt := 205) rfl ?_
                refine V_iconst C dX10_work_205 kc_i_0 ?_
                refine V_aload_n C 0 dX10_work_206 rfl rfl ?_
                refine V_iload_n C 2 dX10_work_207 rfl rfl ?_
                refine V_iconst C dX10_work_208 kc_i_1 ?_
                refine V_iload_n C 3 dX10_work_209 rfl rfl ?_
                refine V_iload C 4 dX10_work_210 rfl ?_
                obtain ⟨a34, S35, e33, h⟩ := bnd2_s h
                refine W_callvi C cf_X10_say (hrc _ _ _ _ _ _ e33) q_ML_X10_47 (ws_X10 sk_154) rfl dX10_work_212 (by omega) rfl rfl (Nat.le_of_ble_eq_true rfl) ?_
                refine V_isub C dX10_work_215 ?_
                exact V_iret C X dX10_work_216 ⟨ri_1 h, ri_2 h⟩
              · replace h := ifn c7 h
                by_cases c8 : v1 = 40
                · replace h := ifp c8 h
                  refine V_lookup C dX10_work_1 (by decide +kernel) (off := 216) (by rw [c8]; decide +kernel) (tgt := 217) rfl ?_
                  refine V_aload_n C 0 dX10_work_217 rfl rfl ?_
                  refine V_iload_n C 2 dX10_work_218 rfl rfl ?_
                  refine V_iconst C dX10_work_219 kc_i_0 ?_
                  refine V_iload_n C 3 dX10_work_220 rfl rfl ?_
                  refine V_iconst C dX10_work_221 kc_i_2 ?_
                  refine V_idiv C dX10_work_222 (by decide) ?_
                  refine V_iload C 4 dX10_work_223 rfl ?_
                  obtain ⟨a37, S38, e36, h⟩ := bnd2_s h
                  refine W_callvi C cf_X10_say (hrc _ _ _ _ _ _ e36) q_ML_X10_47 (ws_X10 sk_154) rfl dX10_work_225 (by omega) rfl rfl (Nat.le_of_ble_eq_true rfl) ?_
                  exact V_iret C X dX10_work_228 ⟨ri_1 h, ri_2 h⟩
                · replace h := ifn c8 h
                  by_cases c9 : v1 = 41
                  · replace h := ifp c9 h
                    refine V_lookup C dX10_work_1 (by decide +kernel) (off := 228) (by rw [c9]; decide +kernel) (tgt := 229) rfl ?_
                    refine V_aload_n C 0 dX10_work_229 rfl rfl ?_
                    refine V_iload_n C 2 dX10_work_230 rfl rfl ?_
                    refine V_iconst C dX10_work_231 kc_i_2 ?_
                    refine V_iload_n C 3 dX10_work_232 rfl rfl ?_
                    refine V_iload C 4 dX10_work_233 rfl ?_
                    obtain ⟨a40, S41, e39, h⟩ := bnd2_s h
                    refine W_callvi C cf_X10_say (hrc _ _ _ _ _ _ e39) q_ML_X10_47 (ws_X10 sk_154) rfl dX10_work_235 (by omega) rfl rfl (Nat.le_of_ble_eq_true rfl) ?_
                    refine V_aload_n C 0 dX10_work_238 rfl rfl ?_
                    refine G_X10_n (q := 154) C sk_154 q_FL_X10_38 dX10_work_239 ?_
                    refine V_ixor C dX10_work_242 ?_
                    exact V_iret C X dX10_work_243 ⟨ri_1 h, ri_2 h⟩
                  · replace h := ifn c9 h
                    by_cases c10 : v1 = 50
                    · replace h := ifp c10 h
                      refine V_lookup C dX10_work_1 (by decide +kernel) (off := 243) (by rw [c10]; decide +kernel) (tgt := 244) rfl ?_
                      refine V_aload_n C 0 dX10_work_244 rfl rfl ?_
                      refine V_iload_n C 2 dX10_work_245 rfl rfl ?_
                      refine V_iconst C dX10_work_246 kc_i_2 ?_
                      refine V_iload_n C 3 dX10_work_247 rfl rfl ?_
                      refine V_iconst C dX10_work_248 kc_i_1 ?_
                      refine V_iadd C dX10_work_249 ?_
                      refine V_iload C 4 dX10_work_250 rfl ?_
                      obtain ⟨a43, S44, e42, h⟩ := bnd2_s h
                      refine W_callvi C cf_X10_say (hrc _ _ _ _ _ _ e42) q_ML_X10_47 (ws_X10 sk_154) rfl dX10_work_252 (by omega) rfl rfl (Nat.le_of_ble_eq_true rfl) ?_
                      exact V_iret C X dX10_work_255 ⟨ri_1 h, ri_2 h⟩
                    · replace h := ifn c10 h
                      by_cases c11 : v1 = 60
                      · replace h := ifp c11 h
                        refine V_lookup C dX10_work_1 (by decide +kernel) (off := 255) (by rw [c11]; decide +kernel) (tgt := 256) rfl ?_
                        refine V_aload_n C 0 dX10_work_256 rfl rfl ?_
                        refine V_iload_n C 2 dX10_work_257 rfl rfl ?_
                        refine V_iconst C dX10_work_258 kc_i_0 ?_
                        refine V_iload_n C 3 dX10_work_259 rfl rfl ?_
                        refine V_iload C 4 dX10_work_260 rfl ?_
                        obtain ⟨a46, S47, e45, h⟩ := bnd2_s h
                        refine W_callvi C cf_X10_say (hrc _ _ _ _ _ _ e45) q_ML_X10_47 (ws_X10 sk_154) rfl dX10_work_262 (by omega) rfl rfl (Nat.le_of_ble_eq_true rfl) ?_
                        refine V_iconst C dX10_work_265 kc_i_3 ?_
                        refine V_imul C dX10_work_266 ?_
                        exact V_iret C X dX10_work_267 ⟨ri_1 h, ri_2 h⟩
                      · replace h := ifn c11 h
                        by_cases c12 : v1 = 61
                        · replace h := ifp c12 h
                          refine V_lookup C dX10_work_1 (by decide +kernel) (off := 267) (by rw [c12]; decide +kernel) (tgt := 268) rfl ?_
                          refine V_aload_n C 0 dX10_work_268 rfl rfl ?_
                          refine V_iload_n C 2 dX10_work_269 rfl rfl ?_
                          refine V_iconst C dX10_work_270 kc_i_3 ?_
                          refine V_iload_n C 3 dX10_work_271 rfl rfl ?_
                          refine V_iload C 4 dX10_work_272 rfl ?_
                          obtain ⟨a49, S50, e48, h⟩ := bnd2_s h
                          refine W_callvi C cf_X10_say (hrc _ _ _ _ _ _ e48) q_ML_X10_47 (ws_X10 sk_154) rfl dX10_work_274 (by omega) rfl rfl (Nat.le_of_ble_eq_true rfl) ?_
                          refine V_aload_n C 0 dX10_work_277 rfl rfl ?_
                          refine V_aload_n C 0 dX10_work_278 rfl rfl ?_
                          refine G_X10_kind (q := 154) C sk_154 q_FL_X10_34 dX10_work_279 ?_
                          refine V_iconst C dX10_work_282 kc_i_2 ?_
                          refine V_iconst C dX10_work_283 kc_i_0 ?_
                          refine V_iload C 4 dX10_work_284 rfl ?_
                          obtain ⟨a52, S53, e51, h⟩ := bnd2_s h
                          refine W_callvi C cf_X10_say (hrc _ _ _ _ _ _ e51) q_ML_X10_47 (ws_X10 sk_154) rfl dX10_work_286 (by omega) rfl rfl (Nat.le_of_ble_eq_true rfl) ?_
                          refine V_isub C dX10_work_289 ?_
                          exact V_iret C X dX10_work_290 ⟨ri_1 h, ri_2 h⟩
                        · replace h := ifn c12 h
                          by_cases c13 : v1 = 70
                          · replace h := ifp c13 h
                            refine V_lookup C dX10_work_1 (by decide +kernel) (off := 290) (by rw [c13]; decide +kernel) (tgt := 291) rfl ?_
                            refine V_bipush C dX10_work_291 kc_b_8 ?_
                            exact V_iret C X dX10_work_293 ⟨ri_1 h, ri_2 h⟩
                          · replace h := ifn c13 h
                            by_cases c14 : v1 = 71
                            · replace h := ifp c14 h
                              refine V_lookup C dX10_work_1 (by decide +kernel) (off := 293) (by rw [c14]; decide +kernel) (tgt := 294) rfl ?_
                              refine V_aload_n C 0 dX10_work_294 rfl rfl ?_
                              refine V_iload_n C 2 dX10_work_295 rfl rfl ?_
                              refine V_iconst C dX10_work_296 kc_i_1 ?_
                              refine V_iload_n C 3 dX10_work_297 rfl rfl ?_
                              refine V_iload C 4 dX10_work_298 rfl ?_
                              obtain ⟨a55, S56, e54, h⟩ := bnd2_s h
                              refine W_callvi C cf_X10_say (hrc _ _ _ _ _ _ e54) q_ML_X10_47 (ws_X10 sk_154) rfl dX10_work_300 (by omega) rfl rfl (Nat.le_of_ble_eq_true rfl) ?_
                              refine V_aload_n C 0 dX10_work_303 rfl rfl ?_
                              refine G_X10_n (q := 154) C sk_154 q_FL_X10_38 dX10_work_304 ?_
                              refine V_iadd C dX10_work_307 ?_
                              exact V_iret C X dX10_work_308 ⟨ri_1 h, ri_2 h⟩
                            · replace h := ifn c14 h
                              refine V_lookup C dX10_work_1 (by decide +kernel) (lks_d [(10 : Int32), (11 : Int32), (12 : Int32), (13 : Int32), (20 : Int32), (21 : Int32), (30 : Int32), (40 : Int32), (41 : Int32), (50 : Int32), (60 : Int32), (61 : Int32), (70 : Int32), (71 : Int32)] (List.forall_mem_cons.mpr ⟨c1, (List.forall_mem_cons.mpr ⟨c2, (List.forall_mem_cons.mpr ⟨c3, (List.forall_mem_cons.mpr ⟨c4, (List.forall_mem_cons.mpr ⟨c5, (List.forall_mem_cons.mpr ⟨c6, (List.forall_mem_cons.mpr ⟨c7, (List.forall_mem_cons.mpr ⟨c8, (List.forall_mem_cons.mpr ⟨c9, (List.forall_mem_cons.mpr ⟨c10, (List.forall_mem_cons.mpr ⟨c11, (List.forall_mem_cons.mpr ⟨c12, (List.forall_mem_cons.mpr ⟨c13, (List.forall_mem_cons.mpr ⟨c14, (fun _ h => absurd h List.not_mem_nil)⟩)⟩)⟩)⟩)⟩)⟩)⟩)⟩)⟩)⟩)⟩)⟩)⟩)⟩) (by decide +kernel)) (tgt := 309) rfl ?_
                              refine V_iconst C dX10_work_309 kc_i_0 ?_
                              exact V_iret C X dX10_work_310 ⟨ri_1 h, ri_2 h⟩
theorem c_X10_work {ε : eT} {N : Nat} {rc : St → Int32 → Int32 → Int32 → Int32 → Option (Int32 × St)} {e : Nat} (hrc : ∀ (S : St) (v1 : Int32) (v2 : Int32) (v3 : Int32) (v4 : Int32) (res : (Int32 × St)), rc S v1 v2 v3 v4 = some res → CI ε yX10_say cX10_say 7 (some .int) e [.ref (eA ε 154), .int v1, .int v2, .int v3, .int v4] S (some (.int res.1)) res.2) (he : 8 ≤ e) {S : St} {v1 : Int32} {v2 : Int32} {v3 : Int32} {v4 : Int32} {res : (Int32 × St)} (h : f_X10_work N rc S v1 v2 v3 v4 = some res) : CI ε yX10_work cX10_work 5 (some .int) (e + 1) [.ref (eA ε 154), .int v1, .int v2, .int v3, .int v4] S (some (.int res.1)) res.2 := CI_of (by decide) (Nat.le_of_ble_eq_true rfl) rfl (fun κ C X => v_X10_work_e C X hrc he h)
def f_X10_say_50 (N : Nat) (rc : St → Int32 → Int32 → Int32 → Int32 → Option (Int32 × St)) (S : St) (v2 : Int32) (v3 : Int32) (v4 : Int32) (v5 : Int32) : Option (Int32 × St) :=
 bnd (f_X10_bodyOf S v5 v2) (fun a2 =>
 bnd (f_X5_add S 155 a2) (fun S4 =>
 bnd (f_X1_above S4 v5) (fun a6 =>
 bnd2 (f_X10_work N rc S4 a2 a6 v3 (v4 + (1 : Int32))) (fun a8 S9 =>
 some (a8, S9)))))
set_option maxRecDepth 20000 in
theorem v_X10_say_50 {ε : eT} {κ : kT} {N : Nat} {rc : St → Int32 → Int32 → Int32 → Int32 → Option (Int32 × St)} {e : Nat} (C : Act ε κ cX10_say 7 RX10 (e + 2)) {S : St} {res : (Int32 × St)} (X : RI ε κ (some .int) (some (.int res.1)) res.2) (hrc : ∀ (S : St) (v1 : Int32) (v2 : Int32) (v3 : Int32) (v4 : Int32) (res : (Int32 × St)), rc S v1 v2 v3 v4 = some res → CI ε yX10_say cX10_say 7 (some .int) e [.ref (eA ε 154), .int v1, .int v2, .int v3, .int v4] S (some (.int res.1)) res.2) (he : 8 ≤ e) {v2 : Int32} {v3 : Int32} {v4 : Int32} {v5 : Int32} (h : f_X10_say_50 N rc S v2 v3 v4 v5 = some res) : V ε κ 7 50 [(0, .ref (eA ε 154)), (2, .int v2), (3, .int v3), (4, .int v4), (5, .int v5)] [] (wsOf ε S) 0 0 := by
  unfold f_X10_say_50 at h
  refine V_iload C 4 dX10_say_50 rfl ?_
  refine V_iload_n C 1 dX10_say_52 rfl rfl ?_
  obtain ⟨a2, e1, h⟩ := bnd_s h
  refine W_callsi C cf_X10_bodyOf (c_X10_bodyOf e1) q_ML_X10_53 dX10_say_53 (by omega) rfl rfl (Nat.le_of_ble_eq_true rfl) ?_
  refine V_istore (lv' := [(6, .int a2), (0, .ref (eA ε 154)), (2, .int v2), (3, .int v3), (4, .int v4), (5, .int v5)]) C dX10_say_56 (by decide) rfl ?_
  refine V_aload_n C 1 dX10_say_58 rfl rfl ?_
  refine G_X10_trace (q := 154) C sk_154 q_FL_X10_14 dX10_say_59 ?_
  refine V_iload C 0 dX10_say_62 rfl ?_
  obtain ⟨S4, e3, h⟩ := bnd_s h
  refine W_callvn C cf_X5_add (c_X5_add sk_155 e3) q_ML_X10_60 (ws_X5 sk_155) rfl dX10_say_64 (by omega) rfl rfl (Nat.le_of_ble_eq_true rfl) ?_
  refine V_aload_n C 1 dX10_say_67 rfl rfl ?_
  refine V_iload C 0 dX10_say_68 rfl ?_
  refine V_iload C 5 dX10_say_70 rfl ?_
  obtain ⟨a6, e5, h⟩ := bnd_s h
  refine W_callsi C cf_X1_above (c_X1_above e5) q_ML_X10_57 dX10_say_72 (by omega) rfl rfl (Nat.le_of_ble_eq_true rfl) ?_
  refine V_iload_n C 3 dX10_say_75 rfl rfl ?_
  refine V_iload C 4 dX10_say_76 rfl ?_
  refine V_iconst C dX10_say_78 kc_i_1 ?_
  refine V_iadd C dX10_say_79 ?_
  obtain ⟨a8, S9, e7, h⟩ := bnd2_s h
  refine W_callvi C cf_X10_work (c_X10_work hrc he e7) q_ML_X10_63 (ws_X10 sk_154) rfl dX10_say_80 (by omega) rfl rfl (Nat.le_of_ble_eq_true rfl) ?_
  exact V_iret C X dX10_say_83 ⟨ri_1 h, ri_2 h⟩
def f_X10_say_22 (N : Nat) (rc : St → Int32 → Int32 → Int32 → Int32 → Option (Int32 × St)) : Nat → St → Int32 → Int32 → Int32 → Int32 → Int32 → Option (Int32 × St)
  | 0, _, _, _, _, _, _ => none
  | n + 1, S, v2, v3, v4, v5, v6 =>
    (if (3 : Int32) ≤ v6 then
     f_X10_say_50 N rc S v2 v3 v4 v5
     else
     bnd (f_X10_bodyOf S v5 v2) (fun a3 =>
     (if a3 = 0 then
     bnd (f_X1_above S v5) (fun a6 =>
     f_X10_say_22 N rc n S v2 v3 v4 a6 (v6 + 1))
     else
     f_X10_say_50 N rc S v2 v3 v4 v5)))
set_option maxRecDepth 20000 in
theorem v_X10_say_22 {ε : eT} {κ : kT} {N : Nat} {rc : St → Int32 → Int32 → Int32 → Int32 → Option (Int32 × St)} {e : Nat} (C : Act ε κ cX10_say 7 RX10 (e + 2)) {res : (Int32 × St)} (X : RI ε κ (some .int) (some (.int res.1)) res.2) (hrc : ∀ (S : St) (v1 : Int32) (v2 : Int32) (v3 : Int32) (v4 : Int32) (res : (Int32 × St)), rc S v1 v2 v3 v4 = some res → CI ε yX10_say cX10_say 7 (some .int) e [.ref (eA ε 154), .int v1, .int v2, .int v3, .int v4] S (some (.int res.1)) res.2) (he : 8 ≤ e) : ∀ (n : Nat) (S : St) (v2 : Int32) (v3 : Int32) (v4 : Int32) (v5 : Int32) (v6 : Int32) (h : f_X10_say_22 N rc n S v2 v3 v4 v5 v6 = some res), V ε κ 7 22 [(0, .ref (eA ε 154)), (2, .int v2), (3, .int v3), (4, .int v4), (5, .int v5), (6, .int v6)] [] (wsOf ε S) 0 0 := by
  intro n
  induction n with
  | zero => intro S v2 v3 v4 v5 v6 h; cases h
  | succ n ih =>
    intro S v2 v3 v4 v5 v6 h
    rw [f_X10_say_22] at h
    refine V_iload C 5 dX10_say_22 rfl ?_
    refine V_iconst C dX10_say_24 kc_i_3 ?_
    refine V_icmp_ge C dX10_say_25 rfl (fun c1 => ?_) (fun c1 => ?_)
    · replace h := ifp c1 h
      refine V_sub C [0, 1, 2, 3, 4] rfl ?_
      exact v_X10_say_50 C X hrc he h
    · replace h := ifn c1 h
      refine V_iload C 4 dX10_say_28 rfl ?_
      refine V_iload_n C 1 dX10_say_30 rfl rfl ?_
      obtain ⟨a3, e2, h⟩ := bnd_s h
      refine W_callsi C cf_X10_bodyOf (c_X10_bodyOf e2) q_ML_X10_53 dX10_say_31 (by omega) rfl rfl (Nat.le_of_ble_eq_true rfl) ?_
      refine V_if_ne C dX10_say_34 rfl (fun c4 => ?_) (fun c4 => ?_)
      · replace h := ifn c4 h
        refine V_sub C [0, 1, 2, 3, 4] rfl ?_
        exact v_X10_say_50 C X hrc he h
      · replace h := ifp c4 h
        refine V_iload C 4 dX10_say_37 rfl ?_
        obtain ⟨a6, e5, h⟩ := bnd_s h
        refine W_callsi C cf_X1_above (c_X1_above e5) q_ML_X10_57 dX10_say_39 (by omega) rfl rfl (Nat.le_of_ble_eq_true rfl) ?_
        refine V_istore (lv' := [(5, .int a6), (0, .ref (eA ε 154)), (2, .int v2), (3, .int v3), (4, .int v4), (6, .int v6)]) C dX10_say_42 (by decide) rfl ?_
        refine V_iinc (v := (v6 + 1)) (lv' := [(6, .int (v6 + 1)), (5, .int a6), (0, .ref (eA ε 154)), (2, .int v2), (3, .int v3), (4, .int v4)]) C 5 dX10_say_44 rfl (congrArg _ kc_i_1) (by decide) rfl ?_
        refine V_goto C dX10_say_47 rfl ?_
        refine V_sub C [2, 3, 4, 5, 1, 0] rfl ?_
        exact ih _ _ _ _ _ _ h
def f_X10_say (N : Nat) : Nat → St → Int32 → Int32 → Int32 → Int32 → Option (Int32 × St)
  | 0, _, _, _, _, _ => none
  | d + 1, S, v1, v2, v3, v4 =>
    (if (S.1 154 1) = 0 then
     (if v4 ≤ (40 : Int32) then
     f_X10_say_22 N (f_X10_say N d) N S v2 v3 v4 v1 (0 : Int32)
     else
     some ((0 : Int32), S))
     else
     some ((0 : Int32), S))
def g_X10_say (N : Nat) (rc : St → Int32 → Int32 → Int32 → Int32 → Option (Int32 × St)) (S : St) (v1 : Int32) (v2 : Int32) (v3 : Int32) (v4 : Int32) : Option (Int32 × St) :=
 (if (S.1 154 1) = 0 then
     (if v4 ≤ (40 : Int32) then
     f_X10_say_22 N rc N S v2 v3 v4 v1 (0 : Int32)
     else
     some ((0 : Int32), S))
     else
     some ((0 : Int32), S))
set_option maxRecDepth 20000 in
theorem v_X10_say_e {ε : eT} {κ : kT} {N : Nat} {rc : St → Int32 → Int32 → Int32 → Int32 → Option (Int32 × St)} {e : Nat} (C : Act ε κ cX10_say 7 RX10 (e + 2)) {S : St} {res : (Int32 × St)} (X : RI ε κ (some .int) (some (.int res.1)) res.2) (hrc : ∀ (S : St) (v1 : Int32) (v2 : Int32) (v3 : Int32) (v4 : Int32) (res : (Int32 × St)), rc S v1 v2 v3 v4 = some res → CI ε yX10_say cX10_say 7 (some .int) e [.ref (eA ε 154), .int v1, .int v2, .int v3, .int v4] S (some (.int res.1)) res.2) (he : 8 ≤ e) {v1 : Int32} {v2 : Int32} {v3 : Int32} {v4 : Int32} (h : g_X10_say N rc S v1 v2 v3 v4 = some res) : V ε κ 7 0 [(0, .ref (eA ε 154)), (1, .int v1), (2, .int v2), (3, .int v3), (4, .int v4)] [] (wsOf ε S) 0 0 := by
  unfold g_X10_say at h
  refine V_aload_n C 0 dX10_say_0 rfl rfl ?_
  refine G_X10_parted (q := 154) C sk_154 q_FL_X10_21 dX10_say_1 ?_
  refine V_if_ne C dX10_say_4 rfl (fun c1 => ?_) (fun c1 => ?_)
  · replace h := ifn c1 h
    refine V_iconst C dX10_say_14 kc_i_0 ?_
    exact V_iret C X dX10_say_15 ⟨ri_1 h, ri_2 h⟩
  · replace h := ifp c1 h
    refine V_iload C 4 dX10_say_7 rfl ?_
    refine V_bipush C dX10_say_9 kc_b_40 ?_
    refine V_icmp_le C dX10_say_11 rfl (fun c2 => ?_) (fun c2 => ?_)
    · replace h := ifp c2 h
      refine V_iload_n C 1 dX10_say_16 rfl rfl ?_
      refine V_istore (lv' := [(5, .int v1), (0, .ref (eA ε 154)), (1, .int v1), (2, .int v2), (3, .int v3), (4, .int v4)]) C dX10_say_17 (by decide) rfl ?_
      refine V_iconst C dX10_say_19 kc_i_0 ?_
      refine V_istore (lv' := [(6, .int (0 : Int32)), (5, .int v1), (0, .ref (eA ε 154)), (1, .int v1), (2, .int v2), (3, .int v3), (4, .int v4)]) C dX10_say_20 (by decide) rfl ?_
      refine V_sub C [2, 4, 5, 6, 1, 0] rfl ?_
      exact v_X10_say_22 C X hrc he N _ _ _ _ _ _ h
    · replace h := ifn c2 h
      refine V_iconst C dX10_say_14 kc_i_0 ?_
      exact V_iret C X dX10_say_15 ⟨ri_1 h, ri_2 h⟩
theorem c_X10_say {ε : eT} {N : Nat} : ∀ (d : Nat) {S : St} {v1 : Int32} {v2 : Int32} {v3 : Int32} {v4 : Int32} {res : (Int32 × St)}, f_X10_say N d S v1 v2 v3 v4 = some res → CI ε yX10_say cX10_say 7 (some .int) (8 + 2 * d) [.ref (eA ε 154), .int v1, .int v2, .int v3, .int v4] S (some (.int res.1)) res.2 := by
  intro d
  induction d with
  | zero => intro S v1 v2 v3 v4 res  h; cases h
  | succ d ih =>
    intro S v1 v2 v3 v4 res  h
    rw [show 8 + 2 * (d + 1) = (8 + 2 * d) + 2 from by omega]
    exact CI_of (by decide) (Nat.le_of_ble_eq_true rfl) rfl (fun κ C X => v_X10_say_e C X (rc := f_X10_say N d) (fun S v1 v2 v3 v4 res h => ih h) (by omega) h)
def f_X10_speak (N : Nat) (S : St) (v1 : Nat) (v2 : Int32) (v3 : Int32) (v4 : Int32) : Option (Int32 × St) :=
 bnd (f_X5_reset N S 155 (0 : Int32)) (fun S2 =>
 bnd (f_X5_at (pt S2 154 1 (0 : Int32)) (v1 + 1) v2) (fun a4 =>
 bnd (f_X5_at (pt (pt (pt S2 154 1 (0 : Int32)) 154 2 a4) 154 3 v2) (v1 + 5) v2) (fun a6 =>
 bnd2 (f_X10_say N 30 (pt (pt (pt (pt S2 154 1 (0 : Int32)) 154 2 a4) 154 3 v2) 154 4 a6) ((pt (pt (pt (pt S2 154 1 (0 : Int32)) 154 2 a4) 154 3 v2) 154 4 a6).1 154 2) v3 v4 (0 : Int32)) (fun a8 S9 =>
 some (a8, S9)))))
set_option maxRecDepth 20000 in
theorem v_X10_speak_e {ε : eT} {κ : kT} {N : Nat} (C : Act ε κ cX10_speak 5 RX10 69) {S : St} {res : (Int32 × St)} (X : RI ε κ (some .int) (some (.int res.1)) res.2) {v1 : Nat} {v2 : Int32} {v3 : Int32} {v4 : Int32} (h1 : sh v1 = 3) (h : f_X10_speak N S v1 v2 v3 v4 = some res) : V ε κ 5 0 [(0, .ref (eA ε 154)), (1, .ref (eA ε v1)), (2, .int v2), (3, .int v3), (4, .int v4)] [] (wsOf ε S) 0 0 := by
  unfold f_X10_speak at h
  refine V_aload_n C 0 dX10_speak_0 rfl rfl ?_
  refine G_X10_trace (q := 154) C sk_154 q_FL_X10_14 dX10_speak_1 ?_
  refine V_iconst C dX10_speak_4 kc_i_0 ?_
  obtain ⟨S2, e1, h⟩ := bnd_s h
  refine W_callvn C cf_X5_reset (c_X5_reset sk_155 e1) q_ML_X10_18 (ws_X5 sk_155) rfl dX10_speak_5 (by decide) rfl rfl (Nat.le_of_ble_eq_true rfl) ?_
  refine V_aload_n C 0 dX10_speak_8 rfl rfl ?_
  refine V_iconst C dX10_speak_9 kc_i_0 ?_
  refine P_X10_parted (q := 154) C nb_0 fb_0 sk_154 q_FL_X10_21 dX10_speak_10 ?_
  refine V_aload_n C 0 dX10_speak_13 rfl rfl ?_
  refine V_aload_n C 1 dX10_speak_14 rfl rfl ?_
  refine G_X3_kinds (q := v1) C h1 q_FL_X10_25 dX10_speak_15 ?_
  refine V_iload_n C 2 dX10_speak_18 rfl rfl ?_
  obtain ⟨a4, e3, h⟩ := bnd_s h
  refine W_callvi C cf_X5_at (c_X5_at (so_3_1 h1) e3) q_ML_X10_30 (ws_X5 (so_3_1 h1)) rfl dX10_speak_19 (by decide) rfl rfl (Nat.le_of_ble_eq_true rfl) ?_
  refine P_X10_kind (q := 154) C sk_154 q_FL_X10_34 dX10_speak_22 ?_
  refine V_aload_n C 0 dX10_speak_25 rfl rfl ?_
  refine V_iload_n C 2 dX10_speak_26 rfl rfl ?_
  refine P_X10_n (q := 154) C sk_154 q_FL_X10_38 dX10_speak_27 ?_
  refine V_aload_n C 0 dX10_speak_30 rfl rfl ?_
  refine V_aload_n C 1 dX10_speak_31 rfl rfl ?_
  refine G_X3_chances (q := v1) C h1 q_FL_X10_41 dX10_speak_32 ?_
  refine V_iload_n C 2 dX10_speak_35 rfl rfl ?_
  obtain ⟨a6, e5, h⟩ := bnd_s h
  refine W_callvi C cf_X5_at (c_X5_at (so_3_5 h1) e5) q_ML_X10_30 (ws_X5 (so_3_5 h1)) rfl dX10_speak_36 (by decide) rfl rfl (Nat.le_of_ble_eq_true rfl) ?_
  refine P_X10_p (q := 154) C sk_154 q_FL_X10_44 dX10_speak_39 ?_
  refine V_aload_n C 0 dX10_speak_42 rfl rfl ?_
  refine V_aload_n C 0 dX10_speak_43 rfl rfl ?_
  refine G_X10_kind (q := 154) C sk_154 q_FL_X10_34 dX10_speak_44 ?_
  refine V_iload_n C 3 dX10_speak_47 rfl rfl ?_
  refine V_iload C 4 dX10_speak_48 rfl ?_
  refine V_iconst C dX10_speak_50 kc_i_0 ?_
  obtain ⟨a8, S9, e7, h⟩ := bnd2_s h
  refine W_callvi C cf_X10_say (c_X10_say 30 e7) q_ML_X10_47 (ws_X10 sk_154) rfl dX10_speak_51 (by decide) rfl rfl (Nat.le_of_ble_eq_true rfl) ?_
  exact V_iret C X dX10_speak_54 ⟨ri_1 h, ri_2 h⟩
theorem c_X10_speak {ε : eT} {N : Nat} {S : St} {v1 : Nat} {v2 : Int32} {v3 : Int32} {v4 : Int32} {res : (Int32 × St)} (h1 : sh v1 = 3) (h : f_X10_speak N S v1 v2 v3 v4 = some res) : CI ε yX10_speak cX10_speak 5 (some .int) 69 [.ref (eA ε 154), .ref (eA ε v1), .int v2, .int v3, .int v4] S (some (.int res.1)) res.2 := CI_of (by decide) (Nat.le_of_ble_eq_true rfl) rfl (fun κ C X => v_X10_speak_e C X h1 h)
def f_X11_within (S : St) (v0 : Int32) (v1 : Int32) : Option Int32 :=
 (if v0 < 0 then
 some (0 : Int32)
 else
 (if v1 < v0 then
 some (0 : Int32)
 else
 some (1 : Int32)))
set_option maxRecDepth 20000 in
theorem v_X11_within_e {ε : eT} {κ : kT} (C : Act ε κ cX11_within 2 RX11 1) {S : St} {res : Int32} (X : RI ε κ (some .boolean) (some (.int res)) S) {v0 : Int32} {v1 : Int32} (h : f_X11_within S v0 v1 = some res) : V ε κ 2 0 [(0, .int v0), (1, .int v1)] [] (wsOf ε S) 0 0 := by
  unfold f_X11_within at h
  refine V_iload_n C 0 dX11_within_0 rfl rfl ?_
  refine V_if_lt C dX11_within_1 rfl (fun c1 => ?_) (fun c1 => ?_)
  · replace h := ifp c1 h
    refine V_iconst C dX11_within_13 kc_i_0 ?_
    exact V_zret C nb_0 X dX11_within_14 ⟨rip_1 h, rfl⟩
  · replace h := ifn c1 h
    refine V_iload_n C 0 dX11_within_4 rfl rfl ?_
    refine V_iload_n C 1 dX11_within_5 rfl rfl ?_
    refine V_icmp_gt C dX11_within_6 rfl (fun c2 => ?_) (fun c2 => ?_)
    · replace h := ifp c2 h
      refine V_iconst C dX11_within_13 kc_i_0 ?_
      exact V_zret C nb_0 X dX11_within_14 ⟨rip_1 h, rfl⟩
    · replace h := ifn c2 h
      refine V_iconst C dX11_within_9 kc_i_1 ?_
      refine V_goto C dX11_within_10 rfl ?_
      exact V_zret C nb_1 X dX11_within_14 ⟨rip_1 h, rfl⟩
theorem c_X11_within {ε : eT} {S : St} {v0 : Int32} {v1 : Int32} {res : Int32} (h : f_X11_within S v0 v1 = some res) : CI ε yX11_within cX11_within 2 (some .boolean) 1 [.int v0, .int v1] S (some (.int res)) S := CI_of (by decide) (Nat.le_of_ble_eq_true rfl) rfl (fun κ C X => v_X11_within_e C X h)
def f_X11_isPerson (S : St) (v1 : Int32) : Option Int32 :=
 bnd (f_X3_size S 9) (fun a2 =>
 bnd (f_X11_within S v1 (a2 - (1 : Int32))) (fun a4 =>
 (if bo a4 = true then some a4 else none)))
set_option maxRecDepth 20000 in
theorem v_X11_isPerson_e {ε : eT} {κ : kT} (C : Act ε κ cX11_isPerson 2 RX11 3) {S : St} {res : Int32} (X : RI ε κ (some .boolean) (some (.int res)) S) {v1 : Int32} (h : f_X11_isPerson S v1 = some res) : V ε κ 2 0 [(0, .ref (eA ε 0)), (1, .int v1)] [] (wsOf ε S) 0 0 := by
  unfold f_X11_isPerson at h
  refine V_iload_n C 1 dX11_isPerson_0 rfl rfl ?_
  refine V_aload_n C 0 dX11_isPerson_1 rfl rfl ?_
  refine G_X11_now (q := 0) C sk_0 q_FL_X11_21 dX11_isPerson_2 ?_
  refine G_X9_people (q := 8) C sk_8 q_FL_X11_86 dX11_isPerson_5 ?_
  obtain ⟨a2, e1, h⟩ := bnd_s h
  refine W_callvi C cf_X3_size (c_X3_size sk_9 e1) q_ML_X11_90 (ws_X3 sk_9) rfl dX11_isPerson_8 (by decide) rfl rfl (Nat.le_of_ble_eq_true rfl) ?_
  refine V_iconst C dX11_isPerson_11 kc_i_1 ?_
  refine V_isub C dX11_isPerson_12 ?_
  obtain ⟨a4, e3, h⟩ := bnd_s h
  refine W_callsi C cf_X11_within (c_X11_within e3) q_ML_X11_75 dX11_isPerson_13 (by decide) rfl rfl (Nat.le_of_ble_eq_true rfl) ?_
  obtain ⟨g5, h⟩ := gdt h
  exact V_zret C (nb_v g5) X dX11_isPerson_16 ⟨rip_1 h, rfl⟩
theorem c_X11_isPerson {ε : eT} {S : St} {v1 : Int32} {res : Int32} (h : f_X11_isPerson S v1 = some res) : CI ε yX11_isPerson cX11_isPerson 2 (some .boolean) 3 [.ref (eA ε 0), .int v1] S (some (.int res)) S := CI_of (by decide) (Nat.le_of_ble_eq_true rfl) rfl (fun κ C X => v_X11_isPerson_e C X h)
def f_X11_fail (S : St) (v1 : Int32) : Option (Int32 × St) :=
 bnd (f_X5_at S 170 v1) (fun a2 =>
 bnd (f_X5_set S 170 v1 (a2 + (1 : Int32))) (fun S4 =>
 some (((-1000000000 : Int32) - v1), S4)))
set_option maxRecDepth 20000 in
theorem v_X11_fail_e {ε : eT} {κ : kT} (C : Act ε κ cX11_fail 2 RX11 2) {S : St} {res : (Int32 × St)} (X : RI ε κ (some .int) (some (.int res.1)) res.2) {v1 : Int32} (h : f_X11_fail S v1 = some res) : V ε κ 2 0 [(0, .ref (eA ε 0)), (1, .int v1)] [] (wsOf ε S) 0 0 := by
  unfold f_X11_fail at h
  refine V_aload_n C 0 dX11_fail_0 rfl rfl ?_
  refine G_X11_errors (q := 0) C sk_0 q_FL_X11_57 dX11_fail_1 ?_
  refine V_iload_n C 1 dX11_fail_4 rfl rfl ?_
  refine V_aload_n C 0 dX11_fail_5 rfl rfl ?_
  refine G_X11_errors (q := 0) C sk_0 q_FL_X11_57 dX11_fail_6 ?_
  refine V_iload_n C 1 dX11_fail_9 rfl rfl ?_
  obtain ⟨a2, e1, h⟩ := bnd_s h
  refine W_callvi C cf_X5_at (c_X5_at sk_170 e1) q_ML_X11_106 (ws_X5 sk_170) rfl dX11_fail_10 (by decide) rfl rfl (Nat.le_of_ble_eq_true rfl) ?_
  refine V_iconst C dX11_fail_13 kc_i_1 ?_
  refine V_iadd C dX11_fail_14 ?_
  obtain ⟨S4, e3, h⟩ := bnd_s h
  refine W_callvn C cf_X5_set (c_X5_set sk_170 e3) q_ML_X11_284 (ws_X5 sk_170) rfl dX11_fail_15 (by decide) rfl rfl (Nat.le_of_ble_eq_true rfl) ?_
  refine V_ldcw C q_K_X11_342 dX11_fail_18 ?_
  refine V_iload_n C 1 dX11_fail_21 rfl rfl ?_
  refine V_isub C dX11_fail_22 ?_
  exact V_iret C X dX11_fail_23 ⟨ri_1 h, ri_2 h⟩
theorem c_X11_fail {ε : eT} {S : St} {v1 : Int32} {res : (Int32 × St)} (h : f_X11_fail S v1 = some res) : CI ε yX11_fail cX11_fail 2 (some .int) 2 [.ref (eA ε 0), .int v1] S (some (.int res.1)) res.2 := CI_of (by decide) (Nat.le_of_ble_eq_true rfl) rfl (fun κ C X => v_X11_fail_e C X h)
def f_X11_as_15 (N : Nat) (S : St) : Option (Int32 × St) :=
 bnd2 (f_X11_fail S (1 : Int32)) (fun a2 S3 =>
 some (a2, S3))
set_option maxRecDepth 20000 in
theorem v_X11_as_15 {ε : eT} {κ : kT} {N : Nat} (C : Act ε κ cX11_as 3 RX11 4) {S : St} {res : (Int32 × St)} (X : RI ε κ (some .int) (some (.int res.1)) res.2) (h : f_X11_as_15 N S = some res) : V ε κ 3 15 [(0, .ref (eA ε 0))] [] (wsOf ε S) 0 0 := by
  unfold f_X11_as_15 at h
  refine V_aload_n C 0 dX11_as_15 rfl rfl ?_
  refine V_iconst C dX11_as_16 kc_i_1 ?_
  obtain ⟨a2, S3, e1, h⟩ := bnd2_s h
  refine W_callvi C cf_X11_fail (c_X11_fail e1) q_ML_X11_82 (ws_X11 sk_0) rfl dX11_as_17 (by decide) rfl rfl (Nat.le_of_ble_eq_true rfl) ?_
  exact V_iret C X dX11_as_20 ⟨ri_1 h, ri_2 h⟩
def f_X11_as (N : Nat) (S : St) (v1 : Int32) (v2 : Int32) : Option (Int32 × St) :=
 bnd (f_X11_isPerson S v1) (fun a2 =>
 (if a2 = 0 then
 f_X11_as_15 N S
 else
 bnd (f_X1_isOne S v2) (fun a5 =>
 (if a5 = 0 then
 f_X11_as_15 N S
 else
 bnd (f_X5_at S 10 v1) (fun a8 =>
 bnd (f_X1_isUnder N S a8 v2) (fun a10 =>
 (if a10 = 0 then
 bnd2 (f_X11_fail S (5 : Int32)) (fun a15 S16 =>
 some (a15, S16))
 else
 bnd (f_X5_at S 12 v1) (fun a13 =>
 some (a13, S)))))))))
set_option maxRecDepth 20000 in
theorem v_X11_as_e {ε : eT} {κ : kT} {N : Nat} (C : Act ε κ cX11_as 3 RX11 4) {S : St} {res : (Int32 × St)} (X : RI ε κ (some .int) (some (.int res.1)) res.2) {v1 : Int32} {v2 : Int32} (h : f_X11_as N S v1 v2 = some res) : V ε κ 3 0 [(0, .ref (eA ε 0)), (1, .int v1), (2, .int v2)] [] (wsOf ε S) 0 0 := by
  unfold f_X11_as at h
  refine V_aload_n C 0 dX11_as_0 rfl rfl ?_
  refine V_iload_n C 1 dX11_as_1 rfl rfl ?_
  obtain ⟨a2, e1, h⟩ := bnd_s h
  refine W_callvi C cf_X11_isPerson (c_X11_isPerson e1) q_ML_X11_100 (ws_X11 sk_0) rfl dX11_as_2 (by decide) rfl rfl (Nat.le_of_ble_eq_true rfl) ?_
  refine V_if_eq C dX11_as_5 rfl (fun c3 => ?_) (fun c3 => ?_)
  · replace h := ifp c3 h
    refine V_sub C [0] rfl ?_
    exact v_X11_as_15 C X h
  · replace h := ifn c3 h
    refine V_iload_n C 2 dX11_as_8 rfl rfl ?_
    obtain ⟨a5, e4, h⟩ := bnd_s h
    refine W_callsi C cf_X1_isOne (c_X1_isOne e4) q_ML_X11_68 dX11_as_9 (by decide) rfl rfl (Nat.le_of_ble_eq_true rfl) ?_
    refine V_if_ne C dX11_as_12 rfl (fun c6 => ?_) (fun c6 => ?_)
    · replace h := ifn c6 h
      refine V_aload_n C 0 dX11_as_21 rfl rfl ?_
      refine G_X11_now (q := 0) C sk_0 q_FL_X11_21 dX11_as_22 ?_
      refine G_X9_people (q := 8) C sk_8 q_FL_X11_86 dX11_as_25 ?_
      refine G_X3_kinds (q := 9) C sk_9 q_FL_X11_103 dX11_as_28 ?_
      refine V_iload_n C 1 dX11_as_31 rfl rfl ?_
      obtain ⟨a8, e7, h⟩ := bnd_s h
      refine W_callvi C cf_X5_at (c_X5_at sk_10 e7) q_ML_X11_106 (ws_X5 sk_10) rfl dX11_as_32 (by decide) rfl rfl (Nat.le_of_ble_eq_true rfl) ?_
      refine V_iload_n C 2 dX11_as_35 rfl rfl ?_
      obtain ⟨a10, e9, h⟩ := bnd_s h
      refine W_callsi C cf_X1_isUnder (c_X1_isUnder e9) q_ML_X11_136 dX11_as_36 (by decide) rfl rfl (Nat.le_of_ble_eq_true rfl) ?_
      refine V_if_ne C dX11_as_39 rfl (fun c11 => ?_) (fun c11 => ?_)
      · replace h := ifn c11 h
        refine V_aload_n C 0 dX11_as_48 rfl rfl ?_
        refine G_X11_now (q := 0) C sk_0 q_FL_X11_21 dX11_as_49 ?_
        refine G_X9_people (q := 8) C sk_8 q_FL_X11_86 dX11_as_52 ?_
        refine G_X3_purses (q := 9) C sk_9 q_FL_X11_109 dX11_as_55 ?_
        refine V_iload_n C 1 dX11_as_58 rfl rfl ?_
        obtain ⟨a13, e12, h⟩ := bnd_s h
        refine W_callvi C cf_X5_at (c_X5_at sk_12 e12) q_ML_X11_106 (ws_X5 sk_12) rfl dX11_as_59 (by decide) rfl rfl (Nat.le_of_ble_eq_true rfl) ?_
        exact V_iret C X dX11_as_62 ⟨ri_1 h, ri_2 h⟩
      · replace h := ifp c11 h
        refine V_aload_n C 0 dX11_as_42 rfl rfl ?_
        refine V_iconst C dX11_as_43 kc_i_5 ?_
        obtain ⟨a15, S16, e14, h⟩ := bnd2_s h
        refine W_callvi C cf_X11_fail (c_X11_fail e14) q_ML_X11_82 (ws_X11 sk_0) rfl dX11_as_44 (by decide) rfl rfl (Nat.le_of_ble_eq_true rfl) ?_
        exact V_iret C X dX11_as_47 ⟨ri_1 h, ri_2 h⟩
    · replace h := ifp c6 h
      refine V_sub C [0] rfl ?_
      exact v_X11_as_15 C X h
theorem c_X11_as {ε : eT} {N : Nat} {S : St} {v1 : Int32} {v2 : Int32} {res : (Int32 × St)} (h : f_X11_as N S v1 v2 = some res) : CI ε yX11_as cX11_as 3 (some .int) 4 [.ref (eA ε 0), .int v1, .int v2] S (some (.int res.1)) res.2 := CI_of (by decide) (Nat.le_of_ble_eq_true rfl) rfl (fun κ C X => v_X11_as_e C X h)
def f_X11_become_15 (S : St) : Option (Int32 × St) :=
 bnd2 (f_X11_fail S (1 : Int32)) (fun a2 S3 =>
 some (a2, S3))
set_option maxRecDepth 20000 in
theorem v_X11_become_15 {ε : eT} {κ : kT} (C : Act ε κ cX11_become 3 RX11 4) {S : St} {res : (Int32 × St)} (X : RI ε κ (some .int) (some (.int res.1)) res.2) (h : f_X11_become_15 S = some res) : V ε κ 3 15 [(0, .ref (eA ε 0))] [] (wsOf ε S) 0 0 := by
  unfold f_X11_become_15 at h
  refine V_aload_n C 0 dX11_become_15 rfl rfl ?_
  refine V_iconst C dX11_become_16 kc_i_1 ?_
  obtain ⟨a2, S3, e1, h⟩ := bnd2_s h
  refine W_callvi C cf_X11_fail (c_X11_fail e1) q_ML_X11_82 (ws_X11 sk_0) rfl dX11_become_17 (by decide) rfl rfl (Nat.le_of_ble_eq_true rfl) ?_
  exact V_iret C X dX11_become_20 ⟨ri_1 h, ri_2 h⟩
def f_X11_become (S : St) (v1 : Int32) (v2 : Int32) : Option (Int32 × St) :=
 bnd (f_X11_isPerson S v1) (fun a2 =>
 (if a2 = 0 then
 f_X11_become_15 S
 else
 bnd (f_X1_isOne S v2) (fun a5 =>
 (if a5 = 0 then
 f_X11_become_15 S
 else
 bnd2 (f_X5_swap S 10 v1 v2) (fun a8 S9 =>
 some (a8, S9))))))
set_option maxRecDepth 20000 in
theorem v_X11_become_e {ε : eT} {κ : kT} (C : Act ε κ cX11_become 3 RX11 4) {S : St} {res : (Int32 × St)} (X : RI ε κ (some .int) (some (.int res.1)) res.2) {v1 : Int32} {v2 : Int32} (h : f_X11_become S v1 v2 = some res) : V ε κ 3 0 [(0, .ref (eA ε 0)), (1, .int v1), (2, .int v2)] [] (wsOf ε S) 0 0 := by
  unfold f_X11_become at h
  refine V_aload_n C 0 dX11_become_0 rfl rfl ?_
  refine V_iload_n C 1 dX11_become_1 rfl rfl ?_
  obtain ⟨a2, e1, h⟩ := bnd_s h
  refine W_callvi C cf_X11_isPerson (c_X11_isPerson e1) q_ML_X11_100 (ws_X11 sk_0) rfl dX11_become_2 (by decide) rfl rfl (Nat.le_of_ble_eq_true rfl) ?_
  refine V_if_eq C dX11_become_5 rfl (fun c3 => ?_) (fun c3 => ?_)
  · replace h := ifp c3 h
    refine V_sub C [0] rfl ?_
    exact v_X11_become_15 C X h
  · replace h := ifn c3 h
    refine V_iload_n C 2 dX11_become_8 rfl rfl ?_
    obtain ⟨a5, e4, h⟩ := bnd_s h
    refine W_callsi C cf_X1_isOne (c_X1_isOne e4) q_ML_X11_68 dX11_become_9 (by decide) rfl rfl (Nat.le_of_ble_eq_true rfl) ?_
    refine V_if_ne C dX11_become_12 rfl (fun c6 => ?_) (fun c6 => ?_)
    · replace h := ifn c6 h
      refine V_aload_n C 0 dX11_become_21 rfl rfl ?_
      refine G_X11_now (q := 0) C sk_0 q_FL_X11_21 dX11_become_22 ?_
      refine G_X9_people (q := 8) C sk_8 q_FL_X11_86 dX11_become_25 ?_
      refine G_X3_kinds (q := 9) C sk_9 q_FL_X11_103 dX11_become_28 ?_
      refine V_iload_n C 1 dX11_become_31 rfl rfl ?_
      refine V_iload_n C 2 dX11_become_32 rfl rfl ?_
      obtain ⟨a8, S9, e7, h⟩ := bnd2_s h
      refine W_callvi C cf_X5_swap (c_X5_swap sk_10 e7) q_ML_X11_139 (ws_X5 sk_10) rfl dX11_become_33 (by decide) rfl rfl (Nat.le_of_ble_eq_true rfl) ?_
      exact V_iret C X dX11_become_36 ⟨ri_1 h, ri_2 h⟩
    · replace h := ifp c6 h
      refine V_sub C [0] rfl ?_
      exact v_X11_become_15 C X h
theorem c_X11_become {ε : eT} {S : St} {v1 : Int32} {v2 : Int32} {res : (Int32 × St)} (h : f_X11_become S v1 v2 = some res) : CI ε yX11_become cX11_become 3 (some .int) 4 [.ref (eA ε 0), .int v1, .int v2] S (some (.int res.1)) res.2 := CI_of (by decide) (Nat.le_of_ble_eq_true rfl) rfl (fun κ C X => v_X11_become_e C X h)
def f_X11_isThing (S : St) (v1 : Int32) : Option Int32 :=
 bnd (f_X8_size S 18) (fun a2 =>
 bnd (f_X11_within S v1 (a2 - (1 : Int32))) (fun a4 =>
 (if bo a4 = true then some a4 else none)))
set_option maxRecDepth 20000 in
theorem v_X11_isThing_e {ε : eT} {κ : kT} (C : Act ε κ cX11_isThing 2 RX11 3) {S : St} {res : Int32} (X : RI ε κ (some .boolean) (some (.int res)) S) {v1 : Int32} (h : f_X11_isThing S v1 = some res) : V ε κ 2 0 [(0, .ref (eA ε 0)), (1, .int v1)] [] (wsOf ε S) 0 0 := by
  unfold f_X11_isThing at h
  refine V_iload_n C 1 dX11_isThing_0 rfl rfl ?_
  refine V_aload_n C 0 dX11_isThing_1 rfl rfl ?_
  refine G_X11_now (q := 0) C sk_0 q_FL_X11_21 dX11_isThing_2 ?_
  refine G_X9_things (q := 8) C sk_8 q_FL_X11_118 dX11_isThing_5 ?_
  obtain ⟨a2, e1, h⟩ := bnd_s h
  refine W_callvi C cf_X8_size (c_X8_size sk_18 e1) q_ML_X11_143 (ws_X8 sk_18) rfl dX11_isThing_8 (by decide) rfl rfl (Nat.le_of_ble_eq_true rfl) ?_
  refine V_iconst C dX11_isThing_11 kc_i_1 ?_
  refine V_isub C dX11_isThing_12 ?_
  obtain ⟨a4, e3, h⟩ := bnd_s h
  refine W_callsi C cf_X11_within (c_X11_within e3) q_ML_X11_75 dX11_isThing_13 (by decide) rfl rfl (Nat.le_of_ble_eq_true rfl) ?_
  obtain ⟨g5, h⟩ := gdt h
  exact V_zret C (nb_v g5) X dX11_isThing_16 ⟨rip_1 h, rfl⟩
theorem c_X11_isThing {ε : eT} {S : St} {v1 : Int32} {res : Int32} (h : f_X11_isThing S v1 = some res) : CI ε yX11_isThing cX11_isThing 2 (some .boolean) 3 [.ref (eA ε 0), .int v1] S (some (.int res)) S := CI_of (by decide) (Nat.le_of_ble_eq_true rfl) rfl (fun κ C X => v_X11_isThing_e C X h)
def f_X11_best (N : Nat) (S : St) (v1 : Int32) : Option (Int32 × St) :=
 bnd (f_X11_isThing S v1) (fun a2 =>
 (if a2 = 0 then
 bnd2 (f_X11_fail S (1 : Int32)) (fun a11 S12 =>
 some (a11, S12))
 else
 bnd (f_X2_look N S 8 v1) (fun S5 =>
 bnd (f_X5_at S5 35 (0 : Int32)) (fun a7 =>
 bnd (f_X2_bestPrice N S5 a7) (fun a9 =>
 some (a9, S5))))))
set_option maxRecDepth 20000 in
theorem v_X11_best_e {ε : eT} {κ : kT} {N : Nat} (C : Act ε κ cX11_best 2 RX11 5) {S : St} {res : (Int32 × St)} (X : RI ε κ (some .int) (some (.int res.1)) res.2) {v1 : Int32} (h : f_X11_best N S v1 = some res) : V ε κ 2 0 [(0, .ref (eA ε 0)), (1, .int v1)] [] (wsOf ε S) 0 0 := by
  unfold f_X11_best at h
  refine V_aload_n C 0 dX11_best_0 rfl rfl ?_
  refine V_iload_n C 1 dX11_best_1 rfl rfl ?_
  obtain ⟨a2, e1, h⟩ := bnd_s h
  refine W_callvi C cf_X11_isThing (c_X11_isThing e1) q_ML_X11_147 (ws_X11 sk_0) rfl dX11_best_2 (by decide) rfl rfl (Nat.le_of_ble_eq_true rfl) ?_
  refine V_if_ne C dX11_best_5 rfl (fun c3 => ?_) (fun c3 => ?_)
  · replace h := ifn c3 h
    refine V_aload_n C 0 dX11_best_14 rfl rfl ?_
    refine G_X11_market (q := 0) C sk_0 q_FL_X11_10 dX11_best_15 ?_
    refine V_aload_n C 0 dX11_best_18 rfl rfl ?_
    refine G_X11_now (q := 0) C sk_0 q_FL_X11_21 dX11_best_19 ?_
    refine V_iload_n C 1 dX11_best_22 rfl rfl ?_
    obtain ⟨S5, e4, h⟩ := bnd_s h
    refine W_callvn C cf_X2_look (c_X2_look sk_8 e4) q_ML_X11_247 (ws_X2 sk_1) rfl dX11_best_23 (by decide) rfl rfl (Nat.le_of_ble_eq_true rfl) ?_
    refine V_aload_n C 0 dX11_best_26 rfl rfl ?_
    refine G_X11_market (q := 0) C sk_0 q_FL_X11_10 dX11_best_27 ?_
    refine V_aload_n C 0 dX11_best_30 rfl rfl ?_
    refine G_X11_now (q := 0) C sk_0 q_FL_X11_21 dX11_best_31 ?_
    refine G_X9_rules (q := 8) C sk_8 q_FL_X11_170 dX11_best_34 ?_
    refine V_iconst C dX11_best_37 kc_i_0 ?_
    obtain ⟨a7, e6, h⟩ := bnd_s h
    refine W_callvi C cf_X5_at (c_X5_at sk_35 e6) q_ML_X11_106 (ws_X5 sk_35) rfl dX11_best_38 (by decide) rfl rfl (Nat.le_of_ble_eq_true rfl) ?_
    obtain ⟨a9, e8, h⟩ := bnd_s h
    refine W_callvi C cf_X2_bestPrice (c_X2_bestPrice e8) q_ML_X11_268 (ws_X2 sk_1) rfl dX11_best_41 (by decide) rfl rfl (Nat.le_of_ble_eq_true rfl) ?_
    exact V_iret C X dX11_best_44 ⟨ri_1 h, ri_2 h⟩
  · replace h := ifp c3 h
    refine V_aload_n C 0 dX11_best_8 rfl rfl ?_
    refine V_iconst C dX11_best_9 kc_i_1 ?_
    obtain ⟨a11, S12, e10, h⟩ := bnd2_s h
    refine W_callvi C cf_X11_fail (c_X11_fail e10) q_ML_X11_82 (ws_X11 sk_0) rfl dX11_best_10 (by decide) rfl rfl (Nat.le_of_ble_eq_true rfl) ?_
    exact V_iret C X dX11_best_13 ⟨ri_1 h, ri_2 h⟩
theorem c_X11_best {ε : eT} {N : Nat} {S : St} {v1 : Int32} {res : (Int32 × St)} (h : f_X11_best N S v1 = some res) : CI ε yX11_best cX11_best 2 (some .int) 5 [.ref (eA ε 0), .int v1] S (some (.int res.1)) res.2 := CI_of (by decide) (Nat.le_of_ble_eq_true rfl) rfl (fun κ C X => v_X11_best_e C X h)
def f_X11_body (S : St) (v1 : Int32) : Option (Int32 × St) :=
 bnd (f_X5_size S 155) (fun a2 =>
 bnd (f_X11_within S v1 (a2 - (1 : Int32))) (fun a4 =>
 (if a4 = 0 then
 bnd2 (f_X11_fail S (2 : Int32)) (fun a9 S10 =>
 some (a9, S10))
 else
 bnd (f_X5_at S 155 v1) (fun a7 =>
 some (a7, S)))))
set_option maxRecDepth 20000 in
theorem v_X11_body_e {ε : eT} {κ : kT} (C : Act ε κ cX11_body 2 RX11 3) {S : St} {res : (Int32 × St)} (X : RI ε κ (some .int) (some (.int res.1)) res.2) {v1 : Int32} (h : f_X11_body S v1 = some res) : V ε κ 2 0 [(0, .ref (eA ε 0)), (1, .int v1)] [] (wsOf ε S) 0 0 := by
  unfold f_X11_body at h
  refine V_iload_n C 1 dX11_body_0 rfl rfl ?_
  refine V_aload_n C 0 dX11_body_1 rfl rfl ?_
  refine G_X11_voices (q := 0) C sk_0 q_FL_X11_41 dX11_body_2 ?_
  refine G_X10_trace (q := 154) C sk_154 q_FL_X11_299 dX11_body_5 ?_
  obtain ⟨a2, e1, h⟩ := bnd_s h
  refine W_callvi C cf_X5_size (c_X5_size sk_155 e1) q_ML_X11_176 (ws_X5 sk_155) rfl dX11_body_8 (by decide) rfl rfl (Nat.le_of_ble_eq_true rfl) ?_
  refine V_iconst C dX11_body_11 kc_i_1 ?_
  refine V_isub C dX11_body_12 ?_
  obtain ⟨a4, e3, h⟩ := bnd_s h
  refine W_callsi C cf_X11_within (c_X11_within e3) q_ML_X11_75 dX11_body_13 (by decide) rfl rfl (Nat.le_of_ble_eq_true rfl) ?_
  refine V_if_ne C dX11_body_16 rfl (fun c5 => ?_) (fun c5 => ?_)
  · replace h := ifn c5 h
    refine V_aload_n C 0 dX11_body_25 rfl rfl ?_
    refine G_X11_voices (q := 0) C sk_0 q_FL_X11_41 dX11_body_26 ?_
    refine G_X10_trace (q := 154) C sk_154 q_FL_X11_299 dX11_body_29 ?_
    refine V_iload_n C 1 dX11_body_32 rfl rfl ?_
    obtain ⟨a7, e6, h⟩ := bnd_s h
    refine W_callvi C cf_X5_at (c_X5_at sk_155 e6) q_ML_X11_106 (ws_X5 sk_155) rfl dX11_body_33 (by decide) rfl rfl (Nat.le_of_ble_eq_true rfl) ?_
    exact V_iret C X dX11_body_36 ⟨ri_1 h, ri_2 h⟩
  · replace h := ifp c5 h
    refine V_aload_n C 0 dX11_body_19 rfl rfl ?_
    refine V_iconst C dX11_body_20 kc_i_2 ?_
    obtain ⟨a9, S10, e8, h⟩ := bnd2_s h
    refine W_callvi C cf_X11_fail (c_X11_fail e8) q_ML_X11_82 (ws_X11 sk_0) rfl dX11_body_21 (by decide) rfl rfl (Nat.le_of_ble_eq_true rfl) ?_
    exact V_iret C X dX11_body_24 ⟨ri_1 h, ri_2 h⟩
theorem c_X11_body {ε : eT} {S : St} {v1 : Int32} {res : (Int32 × St)} (h : f_X11_body S v1 = some res) : CI ε yX11_body cX11_body 2 (some .int) 3 [.ref (eA ε 0), .int v1] S (some (.int res.1)) res.2 := CI_of (by decide) (Nat.le_of_ble_eq_true rfl) rfl (fun κ C X => v_X11_body_e C X h)
def f_X11_check_24 (N : Nat) (S : St) (s0 : Int32) : Option (Int32 × St) :=
 bnd (f_X5_reset N S 53 (0 : Int32)) (fun S2 =>
 some (s0, S2))
set_option maxRecDepth 20000 in
theorem v_X11_check_24 {ε : eT} {κ : kT} {N : Nat} (C : Act ε κ cX11_check 3 RX11 4) {S : St} {res : (Int32 × St)} (X : RI ε κ (some .int) (some (.int res.1)) res.2) {s0 : Int32} (h : f_X11_check_24 N S s0 = some res) : V ε κ 3 24 [(0, .ref (eA ε 0))] [.int s0] (wsOf ε S) 0 0 := by
  unfold f_X11_check_24 at h
  refine V_istore_n (lv' := [(2, .int s0), (0, .ref (eA ε 0))]) C dX11_check_24 rfl (by decide) rfl ?_
  refine V_aload_n C 1 dX11_check_25 rfl rfl ?_
  refine G_X11_now (q := 0) C sk_0 q_FL_X11_21 dX11_check_26 ?_
  refine G_X9_waiting (q := 8) C sk_8 q_FL_X11_336 dX11_check_29 ?_
  refine V_iconst C dX11_check_32 kc_i_0 ?_
  obtain ⟨S2, e1, h⟩ := bnd_s h
  refine W_callvn C cf_X5_reset (c_X5_reset sk_53 e1) q_ML_X11_61 (ws_X5 sk_53) rfl dX11_check_33 (by decide) rfl rfl (Nat.le_of_ble_eq_true rfl) ?_
  refine V_iload_n C 0 dX11_check_36 rfl rfl ?_
  exact V_iret C X dX11_check_37 ⟨ri_1 h, ri_2 h⟩
def f_X11_check (N : Nat) (S : St) (v1 : Int32) : Option (Int32 × St) :=
 bnd (f_X11_isPerson S v1) (fun a2 =>
 (if a2 = 0 then
 bnd2 (f_X11_fail S (1 : Int32)) (fun a5 S6 =>
 f_X11_check_24 N S6 a5)
 else
 bnd (f_X9_firstWrongOf N S 8 v1) (fun a8 =>
 f_X11_check_24 N S a8)))
set_option maxRecDepth 20000 in
theorem v_X11_check_e {ε : eT} {κ : kT} {N : Nat} (C : Act ε κ cX11_check 3 RX11 4) {S : St} {res : (Int32 × St)} (X : RI ε κ (some .int) (some (.int res.1)) res.2) {v1 : Int32} (h : f_X11_check N S v1 = some res) : V ε κ 3 0 [(0, .ref (eA ε 0)), (1, .int v1)] [] (wsOf ε S) 0 0 := by
  unfold f_X11_check at h
  refine V_aload_n C 0 dX11_check_0 rfl rfl ?_
  refine V_iload_n C 1 dX11_check_1 rfl rfl ?_
  obtain ⟨a2, e1, h⟩ := bnd_s h
  refine W_callvi C cf_X11_isPerson (c_X11_isPerson e1) q_ML_X11_100 (ws_X11 sk_0) rfl dX11_check_2 (by decide) rfl rfl (Nat.le_of_ble_eq_true rfl) ?_
  refine V_if_eq C dX11_check_5 rfl (fun c3 => ?_) (fun c3 => ?_)
  · replace h := ifp c3 h
    refine V_aload_n C 0 dX11_check_19 rfl rfl ?_
    refine V_iconst C dX11_check_20 kc_i_1 ?_
    obtain ⟨a5, S6, e4, h⟩ := bnd2_s h
    refine W_callvi C cf_X11_fail (c_X11_fail e4) q_ML_X11_82 (ws_X11 sk_0) rfl dX11_check_21 (by decide) rfl rfl (Nat.le_of_ble_eq_true rfl) ?_
    refine V_sub C [0] rfl ?_
    exact v_X11_check_24 C X h
  · replace h := ifn c3 h
    refine V_aload_n C 0 dX11_check_8 rfl rfl ?_
    refine G_X11_now (q := 0) C sk_0 q_FL_X11_21 dX11_check_9 ?_
    refine V_iload_n C 1 dX11_check_12 rfl rfl ?_
    obtain ⟨a8, e7, h⟩ := bnd_s h
    refine W_callvi C cf_X9_firstWrongOf (c_X9_firstWrongOf sk_8 e7) q_ML_X11_339 (ws_X9 sk_8) rfl dX11_check_13 (by decide) rfl rfl (Nat.le_of_ble_eq_true rfl) ?_
    refine V_goto C dX11_check_16 rfl ?_
    refine V_sub C [0] rfl ?_
    exact v_X11_check_24 C X h
theorem c_X11_check {ε : eT} {N : Nat} {S : St} {v1 : Int32} {res : (Int32 × St)} (h : f_X11_check N S v1 = some res) : CI ε yX11_check cX11_check 3 (some .int) 4 [.ref (eA ε 0), .int v1] S (some (.int res.1)) res.2 := CI_of (by decide) (Nat.le_of_ble_eq_true rfl) rfl (fun κ C X => v_X11_check_e C X h)
def f_X11_count (S : St) (v1 : Int32) : Option (Int32 × St) :=
 (if v1 = 0 then
 bnd (f_X3_size S 9) (fun a10 =>
 some (a10, S))
 else
 (if v1 = 1 then
 bnd (f_X8_size S 18) (fun a12 =>
 some (a12, S))
 else
 (if v1 = 2 then
 bnd (f_X5_size S 33) (fun a14 =>
 some (a14, S))
 else
 (if v1 = 3 then
 some ((S.1 8 11), S)
 else
 (if v1 = 4 then
 bnd (f_X5_size S 51) (fun a16 =>
 some (a16, S))
 else
 (if v1 = 5 then
 bnd (f_X5_size S 53) (fun a18 =>
 some (a18, S))
 else
 (if v1 = 6 then
 bnd (f_X5_size S 155) (fun a20 =>
 some (a20, S))
 else
 (if v1 = 7 then
 some ((S.1 8 14), S)
 else
 bnd2 (f_X11_fail S (1 : Int32)) (fun a22 S23 =>
 some (a22, S23))))))))))
set_option maxRecDepth 20000 in
theorem v_X11_count_e {ε : eT} {κ : kT} (C : Act ε κ cX11_count 2 RX11 3) {S : St} {res : (Int32 × St)} (X : RI ε κ (some .int) (some (.int res.1)) res.2) {v1 : Int32} (h : f_X11_count S v1 = some res) : V ε κ 2 0 [(0, .ref (eA ε 0)), (1, .int v1)] [] (wsOf ε S) 0 0 := by
  unfold f_X11_count at h
  refine V_iload_n C 1 dX11_count_0 rfl rfl ?_
  by_cases c1 : v1 = 0
  · replace h := ifp c1 h
    refine V_table C rfl dX11_count_1 (off := 47) (by rw [c1]; decide +kernel) (tgt := 48) rfl ?_
    refine V_aload_n C 0 dX11_count_48 rfl rfl ?_
    refine G_X11_now (q := 0) C sk_0 q_FL_X11_21 dX11_count_49 ?_
    refine G_X9_people (q := 8) C sk_8 q_FL_X11_86 dX11_count_52 ?_
    obtain ⟨a10, e9, h⟩ := bnd_s h
    refine W_callvi C cf_X3_size (c_X3_size sk_9 e9) q_ML_X11_90 (ws_X3 sk_9) rfl dX11_count_55 (by decide) rfl rfl (Nat.le_of_ble_eq_true rfl) ?_
    exact V_iret C X dX11_count_58 ⟨ri_1 h, ri_2 h⟩
  · replace h := ifn c1 h
    by_cases c2 : v1 = 1
    · replace h := ifp c2 h
      refine V_table C rfl dX11_count_1 (off := 58) (by rw [c2]; decide +kernel) (tgt := 59) rfl ?_
      refine V_aload_n C 0 dX11_count_59 rfl rfl ?_
      refine G_X11_now (q := 0) C sk_0 q_FL_X11_21 dX11_count_60 ?_
      refine G_X9_things (q := 8) C sk_8 q_FL_X11_118 dX11_count_63 ?_
      obtain ⟨a12, e11, h⟩ := bnd_s h
      refine W_callvi C cf_X8_size (c_X8_size sk_18 e11) q_ML_X11_143 (ws_X8 sk_18) rfl dX11_count_66 (by decide) rfl rfl (Nat.le_of_ble_eq_true rfl) ?_
      exact V_iret C X dX11_count_69 ⟨ri_1 h, ri_2 h⟩
    · replace h := ifn c2 h
      by_cases c3 : v1 = 2
      · replace h := ifp c3 h
        refine V_table C rfl dX11_count_1 (off := 69) (by rw [c3]; decide +kernel) (tgt := 70) rfl ?_
        refine V_aload_n C 0 dX11_count_70 rfl rfl ?_
        refine G_X11_now (q := 0) C sk_0 q_FL_X11_21 dX11_count_71 ?_
        refine G_X9_bonuses (q := 8) C sk_8 q_FL_X11_173 dX11_count_74 ?_
        obtain ⟨a14, e13, h⟩ := bnd_s h
        refine W_callvi C cf_X5_size (c_X5_size sk_33 e13) q_ML_X11_176 (ws_X5 sk_33) rfl dX11_count_77 (by decide) rfl rfl (Nat.le_of_ble_eq_true rfl) ?_
        exact V_iret C X dX11_count_80 ⟨ri_1 h, ri_2 h⟩
      · replace h := ifn c3 h
        by_cases c4 : v1 = 3
        · replace h := ifp c4 h
          refine V_table C rfl dX11_count_1 (off := 80) (by rw [c4]; decide +kernel) (tgt := 81) rfl ?_
          refine V_aload_n C 0 dX11_count_81 rfl rfl ?_
          refine G_X11_now (q := 0) C sk_0 q_FL_X11_21 dX11_count_82 ?_
          refine G_X9_years (q := 8) C sk_8 q_FL_X11_232 dX11_count_85 ?_
          exact V_iret C X dX11_count_88 ⟨ri_1 h, ri_2 h⟩
        · replace h := ifn c4 h
          by_cases c5 : v1 = 4
          · replace h := ifp c5 h
            refine V_table C rfl dX11_count_1 (off := 88) (by rw [c5]; decide +kernel) (tgt := 89) rfl ?_
            refine V_aload_n C 0 dX11_count_89 rfl rfl ?_
            refine G_X11_now (q := 0) C sk_0 q_FL_X11_21 dX11_count_90 ?_
            refine G_X9_tape (q := 8) C sk_8 q_FL_X11_192 dX11_count_93 ?_
            obtain ⟨a16, e15, h⟩ := bnd_s h
            refine W_callvi C cf_X5_size (c_X5_size sk_51 e15) q_ML_X11_176 (ws_X5 sk_51) rfl dX11_count_96 (by decide) rfl rfl (Nat.le_of_ble_eq_true rfl) ?_
            exact V_iret C X dX11_count_99 ⟨ri_1 h, ri_2 h⟩
          · replace h := ifn c5 h
            by_cases c6 : v1 = 5
            · replace h := ifp c6 h
              refine V_table C rfl dX11_count_1 (off := 99) (by rw [c6]; decide +kernel) (tgt := 100) rfl ?_
              refine V_aload_n C 0 dX11_count_100 rfl rfl ?_
              refine G_X11_now (q := 0) C sk_0 q_FL_X11_21 dX11_count_101 ?_
              refine G_X9_waiting (q := 8) C sk_8 q_FL_X11_336 dX11_count_104 ?_
              obtain ⟨a18, e17, h⟩ := bnd_s h
              refine W_callvi C cf_X5_size (c_X5_size sk_53 e17) q_ML_X11_176 (ws_X5 sk_53) rfl dX11_count_107 (by decide) rfl rfl (Nat.le_of_ble_eq_true rfl) ?_
              exact V_iret C X dX11_count_110 ⟨ri_1 h, ri_2 h⟩
            · replace h := ifn c6 h
              by_cases c7 : v1 = 6
              · replace h := ifp c7 h
                refine V_table C rfl dX11_count_1 (off := 110) (by rw [c7]; decide +kernel) (tgt := 111) rfl ?_
                refine V_aload_n C 0 dX11_count_111 rfl rfl ?_
                refine G_X11_voices (q := 0) C sk_0 q_FL_X11_41 dX11_count_112 ?_
                refine G_X10_trace (q := 154) C sk_154 q_FL_X11_299 dX11_count_115 ?_
                obtain ⟨a20, e19, h⟩ := bnd_s h
                refine W_callvi C cf_X5_size (c_X5_size sk_155 e19) q_ML_X11_176 (ws_X5 sk_155) rfl dX11_count_118 (by decide) rfl rfl (Nat.le_of_ble_eq_true rfl) ?_
                exact V_iret C X dX11_count_121 ⟨ri_1 h, ri_2 h⟩
              · replace h := ifn c7 h
                by_cases c8 : v1 = 7
                · replace h := ifp c8 h
                  refine V_table C rfl dX11_count_1 (off := 121) (by rw [c8]; decide +kernel) (tgt := 122) rfl ?_
                  refine V_aload_n C 0 dX11_count_122 rfl rfl ?_
                  refine G_X11_now (q := 0) C sk_0 q_FL_X11_21 dX11_count_123 ?_
                  refine G_X9_z (q := 8) C sk_8 q_FL_X11_244 dX11_count_126 ?_
                  exact V_iret C X dX11_count_129 ⟨ri_1 h, ri_2 h⟩
                · replace h := ifn c8 h
                  refine V_table C rfl dX11_count_1 (swt_d [(0 : Int32), (1 : Int32), (2 : Int32), (3 : Int32), (4 : Int32), (5 : Int32), (6 : Int32), (7 : Int32)] (List.forall_mem_cons.mpr ⟨c1, (List.forall_mem_cons.mpr ⟨c2, (List.forall_mem_cons.mpr ⟨c3, (List.forall_mem_cons.mpr ⟨c4, (List.forall_mem_cons.mpr ⟨c5, (List.forall_mem_cons.mpr ⟨c6, (List.forall_mem_cons.mpr ⟨c7, (List.forall_mem_cons.mpr ⟨c8, (fun _ h => absurd h List.not_mem_nil)⟩)⟩)⟩)⟩)⟩)⟩)⟩)⟩) rfl (by decide +kernel)) (tgt := 130) rfl ?_
                  refine V_aload_n C 0 dX11_count_130 rfl rfl ?_
                  refine V_iconst C dX11_count_131 kc_i_1 ?_
                  obtain ⟨a22, S23, e21, h⟩ := bnd2_s h
                  refine W_callvi C cf_X11_fail (c_X11_fail e21) q_ML_X11_82 (ws_X11 sk_0) rfl dX11_count_132 (by decide) rfl rfl (Nat.le_of_ble_eq_true rfl) ?_
                  exact V_iret C X dX11_count_135 ⟨ri_1 h, ri_2 h⟩
theorem c_X11_count {ε : eT} {S : St} {v1 : Int32} {res : (Int32 × St)} (h : f_X11_count S v1 = some res) : CI ε yX11_count cX11_count 2 (some .int) 3 [.ref (eA ε 0), .int v1] S (some (.int res.1)) res.2 := CI_of (by decide) (Nat.le_of_ble_eq_true rfl) rfl (fun κ C X => v_X11_count_e C X h)
def f_X11_feed_11 (N : Nat) (S : St) : Option (Int32 × St) :=
 bnd2 (f_X11_fail S (1 : Int32)) (fun a2 S3 =>
 some (a2, S3))
set_option maxRecDepth 20000 in
theorem v_X11_feed_11 {ε : eT} {κ : kT} {N : Nat} (C : Act ε κ cX11_feed 5 RX11 3) {S : St} {res : (Int32 × St)} (X : RI ε κ (some .int) (some (.int res.1)) res.2) (h : f_X11_feed_11 N S = some res) : V ε κ 5 11 [(0, .ref (eA ε 0))] [] (wsOf ε S) 0 0 := by
  unfold f_X11_feed_11 at h
  refine V_aload_n C 0 dX11_feed_11 rfl rfl ?_
  refine V_iconst C dX11_feed_12 kc_i_1 ?_
  obtain ⟨a2, S3, e1, h⟩ := bnd2_s h
  refine W_callvi C cf_X11_fail (c_X11_fail e1) q_ML_X11_82 (ws_X11 sk_0) rfl dX11_feed_13 (by decide) rfl rfl (Nat.le_of_ble_eq_true rfl) ?_
  exact V_iret C X dX11_feed_16 ⟨ri_1 h, ri_2 h⟩
def f_X11_feed_43 (N : Nat) : Nat → St → Int64 → Int32 → Int32 → Option (Int32 × St)
  | 0, _, _, _, _ => none
  | n + 1, S, v1, v3, v4 =>
    (if v3 ≤ v4 then
     bnd (f_X5_size S 51) (fun a3 =>
     some (a3, S))
     else
     bnd (f_X5_add S 51 ((((v1.toUInt64 >>> (((8 : Int32) * v4).toInt64.toUInt64 &&& Int64.toUInt64 63)).toInt64)).toInt32 &&& (255 : Int32))) (fun S5 =>
     f_X11_feed_43 N n S5 v1 v3 (v4 + 1)))
set_option maxRecDepth 20000 in
theorem v_X11_feed_43 {ε : eT} {κ : kT} {N : Nat} (C : Act ε κ cX11_feed 5 RX11 3) {res : (Int32 × St)} (X : RI ε κ (some .int) (some (.int res.1)) res.2) : ∀ (n : Nat) (S : St) (v1 : Int64) (v3 : Int32) (v4 : Int32) (h : f_X11_feed_43 N n S v1 v3 v4 = some res), V ε κ 5 43 [(0, .ref (eA ε 0)), (1, .long v1), (3, .int v3), (4, .int v4)] [] (wsOf ε S) 0 0 := by
  intro n
  induction n with
  | zero => intro S v1 v3 v4 h; cases h
  | succ n ih =>
    intro S v1 v3 v4 h
    rw [f_X11_feed_43] at h
    refine V_iload C 3 dX11_feed_43 rfl ?_
    refine V_iload_n C 2 dX11_feed_45 rfl rfl ?_
    refine V_icmp_ge C dX11_feed_46 rfl (fun c1 => ?_) (fun c1 => ?_)
    · replace h := ifp c1 h
      refine V_aload_n C 0 dX11_feed_77 rfl rfl ?_
      refine G_X11_now (q := 0) C sk_0 q_FL_X11_21 dX11_feed_78 ?_
      refine G_X9_tape (q := 8) C sk_8 q_FL_X11_192 dX11_feed_81 ?_
      obtain ⟨a3, e2, h⟩ := bnd_s h
      refine W_callvi C cf_X5_size (c_X5_size sk_51 e2) q_ML_X11_176 (ws_X5 sk_51) rfl dX11_feed_84 (by decide) rfl rfl (Nat.le_of_ble_eq_true rfl) ?_
      exact V_iret C X dX11_feed_87 ⟨ri_1 h, ri_2 h⟩
    · replace h := ifn c1 h
      refine V_aload_n C 0 dX11_feed_49 rfl rfl ?_
      refine G_X11_now (q := 0) C sk_0 q_FL_X11_21 dX11_feed_50 ?_
      refine G_X9_tape (q := 8) C sk_8 q_FL_X11_192 dX11_feed_53 ?_
      refine V_lload_n C 1 dX11_feed_56 rfl rfl ?_
      refine V_bipush C dX11_feed_57 kc_b_8 ?_
      refine V_iload C 3 dX11_feed_59 rfl ?_
      refine V_imul C dX11_feed_61 ?_
      refine V_lushr C dX11_feed_62 ?_
      refine V_l2i C dX11_feed_63 ?_
      refine V_sipush C dX11_feed_64 kc_s_255 ?_
      refine V_iand C dX11_feed_67 ?_
      obtain ⟨S5, e4, h⟩ := bnd_s h
      refine W_callvn C cf_X5_add (c_X5_add sk_51 e4) q_ML_X11_195 (ws_X5 sk_51) rfl dX11_feed_68 (by decide) rfl rfl (Nat.le_of_ble_eq_true rfl) ?_
      refine V_iinc (v := (v4 + 1)) (lv' := [(4, .int (v4 + 1)), (0, .ref (eA ε 0)), (1, .long v1), (3, .int v3)]) C 3 dX11_feed_71 rfl (congrArg _ kc_i_1) (by decide) rfl ?_
      refine V_goto C dX11_feed_74 rfl ?_
      refine V_sub C [1, 2, 3, 0] rfl ?_
      exact ih _ _ _ _ h
def f_X11_feed (N : Nat) (S : St) (v1 : Int64) (v3 : Int32) : Option (Int32 × St) :=
 (if v3 < (1 : Int32) then
 f_X11_feed_11 N S
 else
 (if v3 ≤ (8 : Int32) then
 bnd (f_X5_size S 51) (fun a4 =>
 (if a4 ≤ ((60 : Int32) - v3) then
 f_X11_feed_43 N N S v1 v3 (0 : Int32)
 else
 bnd2 (f_X11_fail S (4 : Int32)) (fun a7 S8 =>
 some (a7, S8))))
 else
 f_X11_feed_11 N S))
set_option maxRecDepth 20000 in
theorem v_X11_feed_e {ε : eT} {κ : kT} {N : Nat} (C : Act ε κ cX11_feed 5 RX11 3) {S : St} {res : (Int32 × St)} (X : RI ε κ (some .int) (some (.int res.1)) res.2) {v1 : Int64} {v3 : Int32} (h : f_X11_feed N S v1 v3 = some res) : V ε κ 5 0 [(0, .ref (eA ε 0)), (1, .long v1), (3, .int v3)] [] (wsOf ε S) 0 0 := by
  unfold f_X11_feed at h
  refine V_iload_n C 2 dX11_feed_0 rfl rfl ?_
  refine V_iconst C dX11_feed_1 kc_i_1 ?_
  refine V_icmp_lt C dX11_feed_2 rfl (fun c1 => ?_) (fun c1 => ?_)
  · replace h := ifp c1 h
    refine V_sub C [0] rfl ?_
    exact v_X11_feed_11 C X h
  · replace h := ifn c1 h
    refine V_iload_n C 2 dX11_feed_5 rfl rfl ?_
    refine V_bipush C dX11_feed_6 kc_b_8 ?_
    refine V_icmp_le C dX11_feed_8 rfl (fun c2 => ?_) (fun c2 => ?_)
    · replace h := ifp c2 h
      refine V_aload_n C 0 dX11_feed_17 rfl rfl ?_
      refine G_X11_now (q := 0) C sk_0 q_FL_X11_21 dX11_feed_18 ?_
      refine G_X9_tape (q := 8) C sk_8 q_FL_X11_192 dX11_feed_21 ?_
      obtain ⟨a4, e3, h⟩ := bnd_s h
      refine W_callvi C cf_X5_size (c_X5_size sk_51 e3) q_ML_X11_176 (ws_X5 sk_51) rfl dX11_feed_24 (by decide) rfl rfl (Nat.le_of_ble_eq_true rfl) ?_
      refine V_bipush C dX11_feed_27 kc_b_60 ?_
      refine V_iload_n C 2 dX11_feed_29 rfl rfl ?_
      refine V_isub C dX11_feed_30 ?_
      refine V_icmp_le C dX11_feed_31 rfl (fun c5 => ?_) (fun c5 => ?_)
      · replace h := ifp c5 h
        refine V_iconst C dX11_feed_40 kc_i_0 ?_
        refine V_istore (lv' := [(4, .int (0 : Int32)), (0, .ref (eA ε 0)), (1, .long v1), (3, .int v3)]) C dX11_feed_41 (by decide) rfl ?_
        refine V_sub C [1, 2, 3, 0] rfl ?_
        exact v_X11_feed_43 C X N _ _ _ _ h
      · replace h := ifn c5 h
        refine V_aload_n C 0 dX11_feed_34 rfl rfl ?_
        refine V_iconst C dX11_feed_35 kc_i_4 ?_
        obtain ⟨a7, S8, e6, h⟩ := bnd2_s h
        refine W_callvi C cf_X11_fail (c_X11_fail e6) q_ML_X11_82 (ws_X11 sk_0) rfl dX11_feed_36 (by decide) rfl rfl (Nat.le_of_ble_eq_true rfl) ?_
        exact V_iret C X dX11_feed_39 ⟨ri_1 h, ri_2 h⟩
    · replace h := ifn c2 h
      refine V_sub C [0] rfl ?_
      exact v_X11_feed_11 C X h
theorem c_X11_feed {ε : eT} {N : Nat} {S : St} {v1 : Int64} {v3 : Int32} {res : (Int32 × St)} (h : f_X11_feed N S v1 v3 = some res) : CI ε yX11_feed cX11_feed 5 (some .int) 3 [.ref (eA ε 0), .long v1, .int v3] S (some (.int res.1)) res.2 := CI_of (by decide) (Nat.le_of_ble_eq_true rfl) rfl (fun κ C X => v_X11_feed_e C X h)
def f_X11_firm_16 (N : Nat) (S : St) : Option (Int32 × St) :=
 bnd2 (f_X11_fail S (1 : Int32)) (fun a2 S3 =>
 some (a2, S3))
set_option maxRecDepth 20000 in
theorem v_X11_firm_16 {ε : eT} {κ : kT} {N : Nat} (C : Act ε κ cX11_firm 3 RX11 4) {S : St} {res : (Int32 × St)} (X : RI ε κ (some .int) (some (.int res.1)) res.2) (h : f_X11_firm_16 N S = some res) : V ε κ 3 16 [(0, .ref (eA ε 0))] [] (wsOf ε S) 0 0 := by
  unfold f_X11_firm_16 at h
  refine V_aload_n C 0 dX11_firm_16 rfl rfl ?_
  refine V_iconst C dX11_firm_17 kc_i_1 ?_
  obtain ⟨a2, S3, e1, h⟩ := bnd2_s h
  refine W_callvi C cf_X11_fail (c_X11_fail e1) q_ML_X11_82 (ws_X11 sk_0) rfl dX11_firm_18 (by decide) rfl rfl (Nat.le_of_ble_eq_true rfl) ?_
  exact V_iret C X dX11_firm_21 ⟨ri_1 h, ri_2 h⟩
def f_X11_firm (N : Nat) (S : St) (v1 : Int32) (v2 : Int32) : Option (Int32 × St) :=
 bnd (f_X11_isPerson S v1) (fun a2 =>
 (if a2 = 0 then
 f_X11_firm_16 N S
 else
 bnd (f_X11_within S v2 (2 : Int32)) (fun a5 =>
 (if a5 = 0 then
 f_X11_firm_16 N S
 else
 bnd (f_X9_goRound N S 8 v1 v2) (fun a8 =>
 some (a8, S))))))
set_option maxRecDepth 20000 in
theorem v_X11_firm_e {ε : eT} {κ : kT} {N : Nat} (C : Act ε κ cX11_firm 3 RX11 4) {S : St} {res : (Int32 × St)} (X : RI ε κ (some .int) (some (.int res.1)) res.2) {v1 : Int32} {v2 : Int32} (h : f_X11_firm N S v1 v2 = some res) : V ε κ 3 0 [(0, .ref (eA ε 0)), (1, .int v1), (2, .int v2)] [] (wsOf ε S) 0 0 := by
  unfold f_X11_firm at h
  refine V_aload_n C 0 dX11_firm_0 rfl rfl ?_
  refine V_iload_n C 1 dX11_firm_1 rfl rfl ?_
  obtain ⟨a2, e1, h⟩ := bnd_s h
  refine W_callvi C cf_X11_isPerson (c_X11_isPerson e1) q_ML_X11_100 (ws_X11 sk_0) rfl dX11_firm_2 (by decide) rfl rfl (Nat.le_of_ble_eq_true rfl) ?_
  refine V_if_eq C dX11_firm_5 rfl (fun c3 => ?_) (fun c3 => ?_)
  · replace h := ifp c3 h
    refine V_sub C [0] rfl ?_
    exact v_X11_firm_16 C X h
  · replace h := ifn c3 h
    refine V_iload_n C 2 dX11_firm_8 rfl rfl ?_
    refine V_iconst C dX11_firm_9 kc_i_2 ?_
    obtain ⟨a5, e4, h⟩ := bnd_s h
    refine W_callsi C cf_X11_within (c_X11_within e4) q_ML_X11_75 dX11_firm_10 (by decide) rfl rfl (Nat.le_of_ble_eq_true rfl) ?_
    refine V_if_ne C dX11_firm_13 rfl (fun c6 => ?_) (fun c6 => ?_)
    · replace h := ifn c6 h
      refine V_aload_n C 0 dX11_firm_22 rfl rfl ?_
      refine G_X11_now (q := 0) C sk_0 q_FL_X11_21 dX11_firm_23 ?_
      refine V_iload_n C 1 dX11_firm_26 rfl rfl ?_
      refine V_iload_n C 2 dX11_firm_27 rfl rfl ?_
      obtain ⟨a8, e7, h⟩ := bnd_s h
      refine W_callvi C cf_X9_goRound (c_X9_goRound sk_8 e7) q_ML_X11_277 (ws_X9 sk_8) rfl dX11_firm_28 (by decide) rfl rfl (Nat.le_of_ble_eq_true rfl) ?_
      exact V_iret C X dX11_firm_31 ⟨ri_1 h, ri_2 h⟩
    · replace h := ifp c6 h
      refine V_sub C [0] rfl ?_
      exact v_X11_firm_16 C X h
theorem c_X11_firm {ε : eT} {N : Nat} {S : St} {v1 : Int32} {v2 : Int32} {res : (Int32 × St)} (h : f_X11_firm N S v1 v2 = some res) : CI ε yX11_firm cX11_firm 3 (some .int) 4 [.ref (eA ε 0), .int v1, .int v2] S (some (.int res.1)) res.2 := CI_of (by decide) (Nat.le_of_ble_eq_true rfl) rfl (fun κ C X => v_X11_firm_e C X h)
def f_X11_lowestTerm_60 (N : Nat) (S : St) (v0 : Int64) (v2 : Int64) (v4 : Int32) (s0 : Int64) : Option Int64 :=
 (if v4 = 0 then
 (if s0 = 0 then none else
 some (v0 / s0))
 else
 (if s0 = 0 then none else
 some (v2 / s0)))
set_option maxRecDepth 20000 in
theorem v_X11_lowestTerm_60 {ε : eT} {κ : kT} {N : Nat} (C : Act ε κ cX11_lowestTerm 12 RX11 1) {S : St} {res : Int64} (X : RI ε κ (some .long) (some (.long res)) S) {v0 : Int64} {v2 : Int64} {v4 : Int32} {s0 : Int64} (h : f_X11_lowestTerm_60 N S v0 v2 v4 s0 = some res) : V ε κ 12 60 [(0, .long v0), (2, .long v2), (4, .int v4)] [.long s0] (wsOf ε S) 0 0 := by
  unfold f_X11_lowestTerm_60 at h
  refine V_lstore (lv' := [(9, .long s0), (0, .long v0), (2, .long v2), (4, .int v4)]) C dX11_lowestTerm_60 (by decide) rfl ?_
  refine V_iload C 3 dX11_lowestTerm_62 rfl ?_
  refine V_if_ne C dX11_lowestTerm_64 rfl (fun c1 => ?_) (fun c1 => ?_)
  · replace h := ifn c1 h
    refine V_lload_n C 2 dX11_lowestTerm_74 rfl rfl ?_
    refine V_lload C 0 dX11_lowestTerm_75 rfl ?_
    obtain ⟨g2, h⟩ := gdf h
    refine V_ldiv C dX11_lowestTerm_77 g2 ?_
    exact V_lret C X dX11_lowestTerm_78 ⟨rlp_1 h, rfl⟩
  · replace h := ifp c1 h
    refine V_lload_n C 1 dX11_lowestTerm_67 rfl rfl ?_
    refine V_lload C 0 dX11_lowestTerm_68 rfl ?_
    obtain ⟨g3, h⟩ := gdf h
    refine V_ldiv C dX11_lowestTerm_70 g3 ?_
    refine V_goto C dX11_lowestTerm_71 rfl ?_
    exact V_lret C X dX11_lowestTerm_78 ⟨rlp_1 h, rfl⟩
def f_X11_lowestTerm_47 (N : Nat) (S : St) (v0 : Int64) (v2 : Int64) (v4 : Int32) (v5 : Int64) : Option Int64 :=
 (if (lg_cmp v5 (0 : Int64)) = 0 then
 f_X11_lowestTerm_60 N S v0 v2 v4 (1 : Int64)
 else
 f_X11_lowestTerm_60 N S v0 v2 v4 v5)
set_option maxRecDepth 20000 in
theorem v_X11_lowestTerm_47 {ε : eT} {κ : kT} {N : Nat} (C : Act ε κ cX11_lowestTerm 12 RX11 1) {S : St} {res : Int64} (X : RI ε κ (some .long) (some (.long res)) S) {v0 : Int64} {v2 : Int64} {v4 : Int32} {v5 : Int64} (h : f_X11_lowestTerm_47 N S v0 v2 v4 v5 = some res) : V ε κ 12 47 [(0, .long v0), (2, .long v2), (4, .int v4), (5, .long v5)] [] (wsOf ε S) 0 0 := by
  unfold f_X11_lowestTerm_47 at h
  refine V_lload C 3 dX11_lowestTerm_47 rfl ?_
  refine V_lconst C dX11_lowestTerm_49 kc_l_0 ?_
  refine V_lcmp C dX11_lowestTerm_50 ?_
  refine V_if_ne C dX11_lowestTerm_51 rfl (fun c1 => ?_) (fun c1 => ?_)
  · replace h := ifn c1 h
    refine V_lload C 3 dX11_lowestTerm_58 rfl ?_
    refine V_sub C [0, 1, 2] rfl ?_
    exact v_X11_lowestTerm_60 C X h
  · replace h := ifp c1 h
    refine V_lconst C dX11_lowestTerm_54 kc_l_1 ?_
    refine V_goto C dX11_lowestTerm_55 rfl ?_
    refine V_sub C [0, 1, 2] rfl ?_
    exact v_X11_lowestTerm_60 C X h
def f_X11_lowestTerm_12 (N : Nat) (S : St) : Nat → Int64 → Int64 → Int32 → Int64 → Int64 → Int32 → Option Int64
  | 0, _, _, _, _, _, _ => none
  | n + 1, v0, v2, v4, v5, v7, v9 =>
    (if (100 : Int32) ≤ v9 then
     f_X11_lowestTerm_47 N S v0 v2 v4 v5
     else
     (if (lg_cmp v7 (0 : Int64)) = 0 then
     f_X11_lowestTerm_47 N S v0 v2 v4 v5
     else
     (if v7 = 0 then none else
     f_X11_lowestTerm_12 N S n v0 v2 v4 v7 (v5 - v5 / v7 * v7) (v9 + 1))))
set_option maxRecDepth 20000 in
theorem v_X11_lowestTerm_12 {ε : eT} {κ : kT} {N : Nat} (C : Act ε κ cX11_lowestTerm 12 RX11 1) {S : St} {res : Int64} (X : RI ε κ (some .long) (some (.long res)) S) : ∀ (n : Nat) (v0 : Int64) (v2 : Int64) (v4 : Int32) (v5 : Int64) (v7 : Int64) (v9 : Int32) (h : f_X11_lowestTerm_12 N S n v0 v2 v4 v5 v7 v9 = some res), V ε κ 12 12 [(0, .long v0), (2, .long v2), (4, .int v4), (5, .long v5), (7, .long v7), (9, .int v9)] [] (wsOf ε S) 0 0 := by
  intro n
  induction n with
  | zero => intro v0 v2 v4 v5 v7 v9 h; cases h
  | succ n ih =>
    intro v0 v2 v4 v5 v7 v9 h
    rw [f_X11_lowestTerm_12] at h
    refine V_iload C 5 dX11_lowestTerm_12 rfl ?_
    refine V_bipush C dX11_lowestTerm_14 kc_b_100 ?_
    refine V_icmp_ge C dX11_lowestTerm_16 rfl (fun c1 => ?_) (fun c1 => ?_)
    · replace h := ifp c1 h
      refine V_sub C [0, 1, 2, 3] rfl ?_
      exact v_X11_lowestTerm_47 C X h
    · replace h := ifn c1 h
      refine V_lload C 4 dX11_lowestTerm_19 rfl ?_
      refine V_lconst C dX11_lowestTerm_21 kc_l_0 ?_
      refine V_lcmp C dX11_lowestTerm_22 ?_
      refine V_if_eq C dX11_lowestTerm_23 rfl (fun c2 => ?_) (fun c2 => ?_)
      · replace h := ifp c2 h
        refine V_sub C [0, 1, 2, 3] rfl ?_
        exact v_X11_lowestTerm_47 C X h
      · replace h := ifn c2 h
        refine V_lload C 3 dX11_lowestTerm_26 rfl ?_
        refine V_lload C 4 dX11_lowestTerm_28 rfl ?_
        obtain ⟨g3, h⟩ := gdf h
        refine V_lrem C dX11_lowestTerm_30 g3 ?_
        refine V_lstore (lv' := [(10, .long (v5 - v5 / v7 * v7)), (0, .long v0), (2, .long v2), (4, .int v4), (5, .long v5), (7, .long v7), (9, .int v9)]) C dX11_lowestTerm_31 (by decide) rfl ?_
        refine V_lload C 5 dX11_lowestTerm_33 rfl ?_
        refine V_lstore (lv' := [(5, .long v7), (10, .long (v5 - v5 / v7 * v7)), (0, .long v0), (2, .long v2), (4, .int v4), (7, .long v7), (9, .int v9)]) C dX11_lowestTerm_35 (by decide) rfl ?_
        refine V_lload C 1 dX11_lowestTerm_37 rfl ?_
        refine V_lstore (lv' := [(7, .long (v5 - v5 / v7 * v7)), (5, .long v7), (10, .long (v5 - v5 / v7 * v7)), (0, .long v0), (2, .long v2), (4, .int v4), (9, .int v9)]) C dX11_lowestTerm_39 (by decide) rfl ?_
        refine V_iinc (v := (v9 + 1)) (lv' := [(9, .int (v9 + 1)), (7, .long (v5 - v5 / v7 * v7)), (5, .long v7), (10, .long (v5 - v5 / v7 * v7)), (0, .long v0), (2, .long v2), (4, .int v4)]) C 6 dX11_lowestTerm_41 rfl (congrArg _ kc_i_1) (by decide) rfl ?_
        refine V_goto C dX11_lowestTerm_44 rfl ?_
        refine V_sub C [4, 5, 6, 2, 1, 0] rfl ?_
        exact ih _ _ _ _ _ _ h
def f_X11_lowestTerm (N : Nat) (S : St) (v0 : Int64) (v2 : Int64) (v4 : Int32) : Option Int64 :=
 f_X11_lowestTerm_12 N S N v0 v2 v4 (if 0 < v0 then v0 else -v0) v2 (0 : Int32)
set_option maxRecDepth 20000 in
theorem v_X11_lowestTerm_e {ε : eT} {κ : kT} {N : Nat} (C : Act ε κ cX11_lowestTerm 12 RX11 1) {S : St} {res : Int64} (X : RI ε κ (some .long) (some (.long res)) S) {v0 : Int64} {v2 : Int64} {v4 : Int32} (h : f_X11_lowestTerm N S v0 v2 v4 = some res) : V ε κ 12 0 [(0, .long v0), (2, .long v2), (4, .int v4)] [] (wsOf ε S) 0 0 := by
  unfold f_X11_lowestTerm at h
  refine V_lload_n C 0 dX11_lowestTerm_0 rfl rfl ?_
  refine V_mabsl C q_ML_X11_350 (by decide) (Nat.le_of_ble_eq_true rfl) ⟨Nat.zero_le _, Nat.zero_le _⟩ dX11_lowestTerm_1 ?_
  refine V_lstore (lv' := [(5, .long (if 0 < v0 then v0 else -v0)), (0, .long v0), (2, .long v2), (4, .int v4)]) C dX11_lowestTerm_4 (by decide) rfl ?_
  refine V_lload_n C 2 dX11_lowestTerm_6 rfl rfl ?_
  refine V_lstore (lv' := [(7, .long v2), (5, .long (if 0 < v0 then v0 else -v0)), (0, .long v0), (2, .long v2), (4, .int v4)]) C dX11_lowestTerm_7 (by decide) rfl ?_
  refine V_iconst C dX11_lowestTerm_9 kc_i_0 ?_
  refine V_istore (lv' := [(9, .int (0 : Int32)), (7, .long v2), (5, .long (if 0 < v0 then v0 else -v0)), (0, .long v0), (2, .long v2), (4, .int v4)]) C dX11_lowestTerm_10 (by decide) rfl ?_
  refine V_sub C [3, 4, 5, 2, 1, 0] rfl ?_
  exact v_X11_lowestTerm_12 C X N _ _ _ _ _ _ h
theorem c_X11_lowestTerm {ε : eT} {N : Nat} {S : St} {v0 : Int64} {v2 : Int64} {v4 : Int32} {res : Int64} (h : f_X11_lowestTerm N S v0 v2 v4 = some res) : CI ε yX11_lowestTerm cX11_lowestTerm 12 (some .long) 1 [.long v0, .long v2, .int v4] S (some (.long res)) S := CI_of (by decide) (Nat.le_of_ble_eq_true rfl) rfl (fun κ C X => v_X11_lowestTerm_e C X h)
def f_X11_gain_26 (N : Nat) (S : St) : Option (Int64 × St) :=
 bnd2 (f_X11_fail S (1 : Int32)) (fun a2 S3 =>
 some ((a2).toInt64, S3))
set_option maxRecDepth 20000 in
theorem v_X11_gain_26 {ε : eT} {κ : kT} {N : Nat} (C : Act ε κ cX11_gain 6 RX11 4) {S : St} {res : (Int64 × St)} (X : RI ε κ (some .long) (some (.long res.1)) res.2) (h : f_X11_gain_26 N S = some res) : V ε κ 6 26 [(0, .ref (eA ε 0))] [] (wsOf ε S) 0 0 := by
  unfold f_X11_gain_26 at h
  refine V_aload_n C 0 dX11_gain_26 rfl rfl ?_
  refine V_iconst C dX11_gain_27 kc_i_1 ?_
  obtain ⟨a2, S3, e1, h⟩ := bnd2_s h
  refine W_callvi C cf_X11_fail (c_X11_fail e1) q_ML_X11_82 (ws_X11 sk_0) rfl dX11_gain_28 (by decide) rfl rfl (Nat.le_of_ble_eq_true rfl) ?_
  refine V_i2l C dX11_gain_31 ?_
  exact V_lret C X dX11_gain_32 ⟨rl_1 h, ri_2 h⟩
def f_X11_gain (N : Nat) (S : St) (v1 : Int32) (v2 : Int32) (v3 : Int32) : Option (Int64 × St) :=
 bnd (f_X11_isThing S v1) (fun a2 =>
 (if a2 = 0 then
 f_X11_gain_26 N S
 else
 bnd (f_X11_within S v2 (9999 : Int32)) (fun a5 =>
 (if a5 = 0 then
 f_X11_gain_26 N S
 else
 bnd (f_X11_within S v3 (1 : Int32)) (fun a8 =>
 (if a8 = 0 then
 f_X11_gain_26 N S
 else
 bnd (f_X2_look N S 8 v1) (fun S11 =>
 bnd (f_X5_at S11 35 (0 : Int32)) (fun a13 =>
 bnd (f_X2_gainAt N S11 v2 a13) (fun a15 =>
 bnd (f_X11_lowestTerm N S11 a15 ((S11.2 1) * (100 : Int64)) v3) (fun a17 =>
 some (a17, S11)))))))))))
set_option maxRecDepth 20000 in
theorem v_X11_gain_e {ε : eT} {κ : kT} {N : Nat} (C : Act ε κ cX11_gain 6 RX11 4) {S : St} {res : (Int64 × St)} (X : RI ε κ (some .long) (some (.long res.1)) res.2) {v1 : Int32} {v2 : Int32} {v3 : Int32} (h : f_X11_gain N S v1 v2 v3 = some res) : V ε κ 6 0 [(0, .ref (eA ε 0)), (1, .int v1), (2, .int v2), (3, .int v3)] [] (wsOf ε S) 0 0 := by
  unfold f_X11_gain at h
  refine V_aload_n C 0 dX11_gain_0 rfl rfl ?_
  refine V_iload_n C 1 dX11_gain_1 rfl rfl ?_
  obtain ⟨a2, e1, h⟩ := bnd_s h
  refine W_callvi C cf_X11_isThing (c_X11_isThing e1) q_ML_X11_147 (ws_X11 sk_0) rfl dX11_gain_2 (by decide) rfl rfl (Nat.le_of_ble_eq_true rfl) ?_
  refine V_if_eq C dX11_gain_5 rfl (fun c3 => ?_) (fun c3 => ?_)
  · replace h := ifp c3 h
    refine V_sub C [0] rfl ?_
    exact v_X11_gain_26 C X h
  · replace h := ifn c3 h
    refine V_iload_n C 2 dX11_gain_8 rfl rfl ?_
    refine V_sipush C dX11_gain_9 kc_s_9999 ?_
    obtain ⟨a5, e4, h⟩ := bnd_s h
    refine W_callsi C cf_X11_within (c_X11_within e4) q_ML_X11_75 dX11_gain_12 (by decide) rfl rfl (Nat.le_of_ble_eq_true rfl) ?_
    refine V_if_eq C dX11_gain_15 rfl (fun c6 => ?_) (fun c6 => ?_)
    · replace h := ifp c6 h
      refine V_sub C [0] rfl ?_
      exact v_X11_gain_26 C X h
    · replace h := ifn c6 h
      refine V_iload_n C 3 dX11_gain_18 rfl rfl ?_
      refine V_iconst C dX11_gain_19 kc_i_1 ?_
      obtain ⟨a8, e7, h⟩ := bnd_s h
      refine W_callsi C cf_X11_within (c_X11_within e7) q_ML_X11_75 dX11_gain_20 (by decide) rfl rfl (Nat.le_of_ble_eq_true rfl) ?_
      refine V_if_ne C dX11_gain_23 rfl (fun c9 => ?_) (fun c9 => ?_)
      · replace h := ifn c9 h
        refine V_aload_n C 0 dX11_gain_33 rfl rfl ?_
        refine G_X11_market (q := 0) C sk_0 q_FL_X11_10 dX11_gain_34 ?_
        refine V_aload_n C 0 dX11_gain_37 rfl rfl ?_
        refine G_X11_now (q := 0) C sk_0 q_FL_X11_21 dX11_gain_38 ?_
        refine V_iload_n C 1 dX11_gain_41 rfl rfl ?_
        obtain ⟨S11, e10, h⟩ := bnd_s h
        refine W_callvn C cf_X2_look (c_X2_look sk_8 e10) q_ML_X11_247 (ws_X2 sk_1) rfl dX11_gain_42 (by decide) rfl rfl (Nat.le_of_ble_eq_true rfl) ?_
        refine V_aload_n C 0 dX11_gain_45 rfl rfl ?_
        refine G_X11_market (q := 0) C sk_0 q_FL_X11_10 dX11_gain_46 ?_
        refine V_iload_n C 2 dX11_gain_49 rfl rfl ?_
        refine V_aload_n C 0 dX11_gain_50 rfl rfl ?_
        refine G_X11_now (q := 0) C sk_0 q_FL_X11_21 dX11_gain_51 ?_
        refine G_X9_rules (q := 8) C sk_8 q_FL_X11_170 dX11_gain_54 ?_
        refine V_iconst C dX11_gain_57 kc_i_0 ?_
        obtain ⟨a13, e12, h⟩ := bnd_s h
        refine W_callvi C cf_X5_at (c_X5_at sk_35 e12) q_ML_X11_106 (ws_X5 sk_35) rfl dX11_gain_58 (by decide) rfl rfl (Nat.le_of_ble_eq_true rfl) ?_
        obtain ⟨a15, e14, h⟩ := bnd_s h
        refine W_callvl C cf_X2_gainAt (c_X2_gainAt e14) q_ML_X11_262 (ws_X2 sk_1) rfl dX11_gain_61 (by decide) rfl rfl (Nat.le_of_ble_eq_true rfl) ?_
        refine V_lstore (lv' := [(4, .long a15), (0, .ref (eA ε 0)), (1, .int v1), (2, .int v2), (3, .int v3)]) C dX11_gain_64 (by decide) rfl ?_
        refine V_lload C 0 dX11_gain_66 rfl ?_
        refine V_aload_n C 1 dX11_gain_68 rfl rfl ?_
        refine G_X11_market (q := 0) C sk_0 q_FL_X11_10 dX11_gain_69 ?_
        refine G_X2_whole (q := 1) C sk_1 q_FL_X11_250 dX11_gain_72 ?_
        refine V_ldc2 C q_KL_X11_266 dX11_gain_75 ?_
        refine V_lmul C dX11_gain_78 ?_
        refine V_iload_n C 4 dX11_gain_79 rfl rfl ?_
        obtain ⟨a17, e16, h⟩ := bnd_s h
        refine W_callsl C cf_X11_lowestTerm (c_X11_lowestTerm e16) q_ML_X11_258 dX11_gain_80 (by decide) rfl rfl (Nat.le_of_ble_eq_true rfl) ?_
        exact V_lret C X dX11_gain_83 ⟨rl_1 h, ri_2 h⟩
      · replace h := ifp c9 h
        refine V_sub C [0] rfl ?_
        exact v_X11_gain_26 C X h
theorem c_X11_gain {ε : eT} {N : Nat} {S : St} {v1 : Int32} {v2 : Int32} {v3 : Int32} {res : (Int64 × St)} (h : f_X11_gain N S v1 v2 v3 = some res) : CI ε yX11_gain cX11_gain 6 (some .long) 4 [.ref (eA ε 0), .int v1, .int v2, .int v3] S (some (.long res.1)) res.2 := CI_of (by decide) (Nat.le_of_ble_eq_true rfl) rfl (fun κ C X => v_X11_gain_e C X h)
def f_X11_highestOfRule (S : St) (v0 : Int32) : Option Int32 :=
 (if v0 = 0 then
 some (99 : Int32)
 else
 (if v0 = 1 then
 some (99 : Int32)
 else
 (if v0 = 2 then
 some (2 : Int32)
 else
 (if v0 = 3 then
 some (9 : Int32)
 else
 some (999 : Int32)))))
set_option maxRecDepth 20000 in
theorem v_X11_highestOfRule_e {ε : eT} {κ : kT} (C : Act ε κ cX11_highestOfRule 1 RX11 1) {S : St} {res : Int32} (X : RI ε κ (some .int) (some (.int res)) S) {v0 : Int32} (h : f_X11_highestOfRule S v0 = some res) : V ε κ 1 0 [(0, .int v0)] [] (wsOf ε S) 0 0 := by
  unfold f_X11_highestOfRule at h
  refine V_iload_n C 0 dX11_highestOfRule_0 rfl rfl ?_
  by_cases c1 : v0 = 0
  · replace h := ifp c1 h
    refine V_table C rfl dX11_highestOfRule_1 (off := 31) (by rw [c1]; decide +kernel) (tgt := 32) rfl ?_
    refine V_bipush C dX11_highestOfRule_32 kc_b_99 ?_
    exact V_iret C X dX11_highestOfRule_34 ⟨rip_1 h, rfl⟩
  · replace h := ifn c1 h
    by_cases c2 : v0 = 1
    · replace h := ifp c2 h
      refine V_table C rfl dX11_highestOfRule_1 (off := 31) (by rw [c2]; decide +kernel) (tgt := 32) rfl ?_
      refine V_bipush C dX11_highestOfRule_32 kc_b_99 ?_
      exact V_iret C X dX11_highestOfRule_34 ⟨rip_1 h, rfl⟩
    · replace h := ifn c2 h
      by_cases c3 : v0 = 2
      · replace h := ifp c3 h
        refine V_table C rfl dX11_highestOfRule_1 (off := 34) (by rw [c3]; decide +kernel) (tgt := 35) rfl ?_
        refine V_iconst C dX11_highestOfRule_35 kc_i_2 ?_
        exact V_iret C X dX11_highestOfRule_36 ⟨rip_1 h, rfl⟩
      · replace h := ifn c3 h
        by_cases c4 : v0 = 3
        · replace h := ifp c4 h
          refine V_table C rfl dX11_highestOfRule_1 (off := 36) (by rw [c4]; decide +kernel) (tgt := 37) rfl ?_
          refine V_bipush C dX11_highestOfRule_37 kc_b_9 ?_
          exact V_iret C X dX11_highestOfRule_39 ⟨rip_1 h, rfl⟩
        · replace h := ifn c4 h
          refine V_table C rfl dX11_highestOfRule_1 (swt_d [(0 : Int32), (1 : Int32), (2 : Int32), (3 : Int32)] (List.forall_mem_cons.mpr ⟨c1, (List.forall_mem_cons.mpr ⟨c2, (List.forall_mem_cons.mpr ⟨c3, (List.forall_mem_cons.mpr ⟨c4, (fun _ h => absurd h List.not_mem_nil)⟩)⟩)⟩)⟩) rfl (by decide +kernel)) (tgt := 40) rfl ?_
          refine V_sipush C dX11_highestOfRule_40 kc_s_999 ?_
          exact V_iret C X dX11_highestOfRule_43 ⟨rip_1 h, rfl⟩
theorem c_X11_highestOfRule {ε : eT} {S : St} {v0 : Int32} {res : Int32} (h : f_X11_highestOfRule S v0 = some res) : CI ε yX11_highestOfRule cX11_highestOfRule 1 (some .int) 1 [.int v0] S (some (.int res)) S := CI_of (by decide) (Nat.le_of_ble_eq_true rfl) rfl (fun κ C X => v_X11_highestOfRule_e C X h)
def f_X11_image (S : St) : Option (Int32 × St) :=
 bnd (f_X9_copy S 102 8) (fun S2 =>
 some (((pt S2 0 8 ((S2.1 0 8) + (1 : Int32))).1 0 8), (pt S2 0 8 ((S2.1 0 8) + (1 : Int32)))))
set_option maxRecDepth 20000 in
theorem v_X11_image_e {ε : eT} {κ : kT} (C : Act ε κ cX11_image 1 RX11 5) {S : St} {res : (Int32 × St)} (X : RI ε κ (some .int) (some (.int res.1)) res.2) (h : f_X11_image S = some res) : V ε κ 1 0 [(0, .ref (eA ε 0))] [] (wsOf ε S) 0 0 := by
  unfold f_X11_image at h
  refine V_aload_n C 0 dX11_image_0 rfl rfl ?_
  refine G_X11_kept (q := 0) C sk_0 q_FL_X11_28 dX11_image_1 ?_
  refine V_aload_n C 0 dX11_image_4 rfl rfl ?_
  refine G_X11_now (q := 0) C sk_0 q_FL_X11_21 dX11_image_5 ?_
  obtain ⟨S2, e1, h⟩ := bnd_s h
  refine W_callvn C cf_X9_copy (c_X9_copy sk_102 sk_8 e1) q_ML_X11_280 (ws_X9 sk_102) rfl dX11_image_8 (by decide) rfl rfl (Nat.le_of_ble_eq_true rfl) ?_
  refine V_aload_n C 0 dX11_image_11 rfl rfl ?_
  refine V_dup C dX11_image_12 rfl ?_
  refine G_X11_images (q := 0) C sk_0 q_FL_X11_64 dX11_image_13 ?_
  refine V_iconst C dX11_image_16 kc_i_1 ?_
  refine V_iadd C dX11_image_17 ?_
  refine P_X11_images (q := 0) C sk_0 q_FL_X11_64 dX11_image_18 ?_
  refine V_aload_n C 0 dX11_image_21 rfl rfl ?_
  refine G_X11_images (q := 0) C sk_0 q_FL_X11_64 dX11_image_22 ?_
  exact V_iret C X dX11_image_25 ⟨ri_1 h, ri_2 h⟩
theorem c_X11_image {ε : eT} {S : St} {res : (Int32 × St)} (h : f_X11_image S = some res) : CI ε yX11_image cX11_image 1 (some .int) 5 [.ref (eA ε 0)] S (some (.int res.1)) res.2 := CI_of (by decide) (Nat.le_of_ble_eq_true rfl) rfl (fun κ C X => v_X11_image_e C X h)
def f_X11_isChance (S : St) (v0 : Int32) : Option Int32 :=
 (if 0 ≤ v0 then
 (if (v0 - v0 / (10 : Int32) * (10 : Int32)) < (1 : Int32) then
 some (0 : Int32)
 else
 (if (v0 - v0 / (10 : Int32) * (10 : Int32)) < (v0 / (10 : Int32)) then
 some (0 : Int32)
 else
 some (1 : Int32)))
 else
 some (0 : Int32))
set_option maxRecDepth 20000 in
theorem v_X11_isChance_e {ε : eT} {κ : kT} (C : Act ε κ cX11_isChance 2 RX11 1) {S : St} {res : Int32} (X : RI ε κ (some .boolean) (some (.int res)) S) {v0 : Int32} (h : f_X11_isChance S v0 = some res) : V ε κ 2 0 [(0, .int v0)] [] (wsOf ε S) 0 0 := by
  unfold f_X11_isChance at h
  refine V_iload_n C 0 dX11_isChance_0 rfl rfl ?_
  refine V_if_ge C dX11_isChance_1 rfl (fun c1 => ?_) (fun c1 => ?_)
  · replace h := ifp c1 h
    refine V_iload_n C 0 dX11_isChance_6 rfl rfl ?_
    refine V_bipush C dX11_isChance_7 kc_b_10 ?_
    refine V_irem C dX11_isChance_9 (by decide) ?_
    refine V_istore_n (lv' := [(1, .int (v0 - v0 / (10 : Int32) * (10 : Int32))), (0, .int v0)]) C dX11_isChance_10 rfl (by decide) rfl ?_
    refine V_iload_n C 0 dX11_isChance_11 rfl rfl ?_
    refine V_iconst C dX11_isChance_12 kc_i_1 ?_
    refine V_icmp_lt C dX11_isChance_13 rfl (fun c2 => ?_) (fun c2 => ?_)
    · replace h := ifp c2 h
      refine V_iconst C dX11_isChance_28 kc_i_0 ?_
      exact V_zret C nb_0 X dX11_isChance_29 ⟨rip_1 h, rfl⟩
    · replace h := ifn c2 h
      refine V_iload_n C 1 dX11_isChance_16 rfl rfl ?_
      refine V_bipush C dX11_isChance_17 kc_b_10 ?_
      refine V_idiv C dX11_isChance_19 (by decide) ?_
      refine V_iload_n C 0 dX11_isChance_20 rfl rfl ?_
      refine V_icmp_gt C dX11_isChance_21 rfl (fun c3 => ?_) (fun c3 => ?_)
      · replace h := ifp c3 h
        refine V_iconst C dX11_isChance_28 kc_i_0 ?_
        exact V_zret C nb_0 X dX11_isChance_29 ⟨rip_1 h, rfl⟩
      · replace h := ifn c3 h
        refine V_iconst C dX11_isChance_24 kc_i_1 ?_
        refine V_goto C dX11_isChance_25 rfl ?_
        exact V_zret C nb_1 X dX11_isChance_29 ⟨rip_1 h, rfl⟩
  · replace h := ifn c1 h
    refine V_iconst C dX11_isChance_4 kc_i_0 ?_
    exact V_zret C nb_0 X dX11_isChance_5 ⟨rip_1 h, rfl⟩
theorem c_X11_isChance {ε : eT} {S : St} {v0 : Int32} {res : Int32} (h : f_X11_isChance S v0 = some res) : CI ε yX11_isChance cX11_isChance 2 (some .boolean) 1 [.int v0] S (some (.int res)) S := CI_of (by decide) (Nat.le_of_ble_eq_true rfl) rfl (fun κ C X => v_X11_isChance_e C X h)
def f_X11_sheetAt_22 (S : St) : Option (Option Nat) :=
 some none
set_option maxRecDepth 20000 in
theorem v_X11_sheetAt_22 {ε : eT} {κ : kT} (C : Act ε κ cX11_sheetAt 2 RX11 1) {S : St} {res : (Option Nat)} (X : RI ε κ (some (.object "NamedPrices$Sheet")) (rvO ε res) S) (h : f_X11_sheetAt_22 S = some res) : V ε κ 2 22 [] [] (wsOf ε S) 0 0 := by
  unfold f_X11_sheetAt_22 at h
  refine V_null C dX11_sheetAt_22 ?_
  exact V_aret C (Or.inl rfl) X dX11_sheetAt_23 ⟨rO_n h, rfl⟩
def f_X11_sheetAt (S : St) (v1 : Int32) : Option (Option Nat) :=
 (if v1 < 0 then
 f_X11_sheetAt_22 S
 else
 (if (Int32.ofNat 4) ≤ v1 then
 f_X11_sheetAt_22 S
 else
 (if inb v1 4 = true then
 some (some (157 + 1 + 3 * v1.toNatClampNeg))
 else none)))
set_option maxRecDepth 20000 in
theorem v_X11_sheetAt_e {ε : eT} {κ : kT} (C : Act ε κ cX11_sheetAt 2 RX11 1) {S : St} {res : (Option Nat)} (X : RI ε κ (some (.object "NamedPrices$Sheet")) (rvO ε res) S) {v1 : Int32} (h : f_X11_sheetAt S v1 = some res) : V ε κ 2 0 [(0, .ref (eA ε 0)), (1, .int v1)] [] (wsOf ε S) 0 0 := by
  unfold f_X11_sheetAt at h
  refine V_iload_n C 1 dX11_sheetAt_0 rfl rfl ?_
  refine V_if_lt C dX11_sheetAt_1 rfl (fun c1 => ?_) (fun c1 => ?_)
  · replace h := ifp c1 h
    refine V_sub C [] rfl ?_
    exact v_X11_sheetAt_22 C X h
  · replace h := ifn c1 h
    refine V_iload_n C 1 dX11_sheetAt_4 rfl rfl ?_
    refine V_aload_n C 0 dX11_sheetAt_5 rfl rfl ?_
    refine G_X11_sheets (q := 0) C sk_0 q_FL_X11_47 dX11_sheetAt_6 ?_
    refine W_alenS (q := 157) C sk_157 dX11_sheetAt_9 ?_
    refine V_icmp_ge C dX11_sheetAt_10 rfl (fun c2 => ?_) (fun c2 => ?_)
    · replace h := ifp c2 h
      refine V_sub C [] rfl ?_
      exact v_X11_sheetAt_22 C X h
    · replace h := ifn c2 h
      refine V_aload_n C 0 dX11_sheetAt_13 rfl rfl ?_
      refine G_X11_sheets (q := 0) C sk_0 q_FL_X11_47 dX11_sheetAt_14 ?_
      refine V_iload_n C 1 dX11_sheetAt_17 rfl rfl ?_
      obtain ⟨g3, h⟩ := gdt h
      refine W_aaldS (q := 157) C sk_157 g3 dX11_sheetAt_18 ?_
      refine V_goto C dX11_sheetAt_19 rfl ?_
      exact V_aret C (Or.inr ⟨_, rfl⟩) X dX11_sheetAt_23 ⟨rO_s h, rfl⟩
theorem c_X11_sheetAt {ε : eT} {S : St} {v1 : Int32} {res : (Option Nat)} (h : f_X11_sheetAt S v1 = some res) : CI ε yX11_sheetAt cX11_sheetAt 2 (some (.object "NamedPrices$Sheet")) 1 [.ref (eA ε 0), .int v1] S (rvO ε res) S := CI_of (by decide) (Nat.le_of_ble_eq_true rfl) rfl (fun κ C X => v_X11_sheetAt_e C X h)
def f_X11_judge_43 (N : Nat) : Nat → St → Nat → Int32 → Int32 → Option (Int32 × St)
  | 0, _, _, _, _ => none
  | n + 1, S, v2, v3, v4 =>
    (if v3 ≤ v4 then
     some (v3, S)
     else
     bnd (f_X6_holds S v2 v4 (1 : Int32)) (fun a3 =>
     (if a3 = 0 then
     some (v4, S)
     else
     bnd (f_X5_at S (v2 + 1) v4) (fun a6 =>
     bnd2 (f_X9_nameFor N S 8 v4) (fun a8 S9 =>
     (if a6 = a8 then
     f_X11_judge_43 N n S9 v2 v3 (v4 + 1)
     else
     some (v4, S9)))))))
set_option maxRecDepth 20000 in
theorem v_X11_judge_43 {ε : eT} {κ : kT} {N : Nat} (C : Act ε κ cX11_judge 5 RX11 6) {res : (Int32 × St)} (X : RI ε κ (some .int) (some (.int res.1)) res.2) : ∀ (n : Nat) (S : St) (v2 : Nat) (v3 : Int32) (v4 : Int32) (h2 : sh v2 = 6) (h : f_X11_judge_43 N n S v2 v3 v4 = some res), V ε κ 5 43 [(0, .ref (eA ε 0)), (2, .ref (eA ε v2)), (3, .int v3), (4, .int v4)] [] (wsOf ε S) 0 0 := by
  intro n
  induction n with
  | zero => intro S v2 v3 v4 h2 h; cases h
  | succ n ih =>
    intro S v2 v3 v4 h2 h
    rw [f_X11_judge_43] at h
    refine V_iload C 3 dX11_judge_43 rfl ?_
    refine V_iload_n C 2 dX11_judge_45 rfl rfl ?_
    refine V_icmp_ge C dX11_judge_46 rfl (fun c1 => ?_) (fun c1 => ?_)
    · replace h := ifp c1 h
      refine V_iload_n C 2 dX11_judge_89 rfl rfl ?_
      exact V_iret C X dX11_judge_90 ⟨ri_1 h, ri_2 h⟩
    · replace h := ifn c1 h
      refine V_aload_n C 1 dX11_judge_49 rfl rfl ?_
      refine V_iload C 3 dX11_judge_50 rfl ?_
      refine V_iconst C dX11_judge_52 kc_i_1 ?_
      obtain ⟨a3, e2, h⟩ := bnd_s h
      refine W_callvi C cf_X6_holds (c_X6_holds h2 e2) q_ML_X11_315 (ws_X6 h2) rfl dX11_judge_53 (by decide) rfl rfl (Nat.le_of_ble_eq_true rfl) ?_
      refine V_if_eq C dX11_judge_56 rfl (fun c4 => ?_) (fun c4 => ?_)
      · replace h := ifp c4 h
        refine V_iload C 3 dX11_judge_80 rfl ?_
        exact V_iret C X dX11_judge_82 ⟨ri_1 h, ri_2 h⟩
      · replace h := ifn c4 h
        refine V_aload_n C 1 dX11_judge_59 rfl rfl ?_
        refine G_X6_numbers (q := v2) C h2 q_FL_X11_324 dX11_judge_60 ?_
        refine V_iload C 3 dX11_judge_63 rfl ?_
        obtain ⟨a6, e5, h⟩ := bnd_s h
        refine W_callvi C cf_X5_at (c_X5_at (so_6_1 h2) e5) q_ML_X11_106 (ws_X5 (so_6_1 h2)) rfl dX11_judge_65 (by decide) rfl rfl (Nat.le_of_ble_eq_true rfl) ?_
        refine V_aload_n C 0 dX11_judge_68 rfl rfl ?_
        refine G_X11_now (q := 0) C sk_0 q_FL_X11_21 dX11_judge_69 ?_
        refine V_iload C 3 dX11_judge_72 rfl ?_
        obtain ⟨a8, S9, e7, h⟩ := bnd2_s h
        refine W_callvi C cf_X9_nameFor (c_X9_nameFor sk_8 e7) q_ML_X11_226 (ws_X9 sk_8) rfl dX11_judge_74 (by decide) rfl rfl (Nat.le_of_ble_eq_true rfl) ?_
        refine V_icmp_eq C dX11_judge_77 rfl (fun c10 => ?_) (fun c10 => ?_)
        · replace h := ifp c10 h
          refine V_iinc (v := (v4 + 1)) (lv' := [(4, .int (v4 + 1)), (0, .ref (eA ε 0)), (2, .ref (eA ε v2)), (3, .int v3)]) C 3 dX11_judge_83 rfl (congrArg _ kc_i_1) (by decide) rfl ?_
          refine V_goto C dX11_judge_86 rfl ?_
          refine V_sub C [1, 2, 3, 0] rfl ?_
          exact ih _ _ _ _ h2 h
        · replace h := ifn c10 h
          refine V_iload C 3 dX11_judge_80 rfl ?_
          exact V_iret C X dX11_judge_82 ⟨ri_1 h, ri_2 h⟩
def f_X11_judge (N : Nat) (S : St) (v1 : Int32) : Option (Int32 × St) :=
 bnd (f_X11_sheetAt S v1) (fun o4 => oel o4
 (bnd2 (f_X11_fail S (1 : Int32)) (fun a14 S15 =>
 some (a14, S15)))
 (fun a2 => (if sh a2 = 6 then
 bnd (f_X6_isMissing S a2) (fun a6 =>
 (if a6 = 0 then
 bnd (f_X8_size S 18) (fun a9 =>
 f_X11_judge_43 N N S a2 a9 (0 : Int32))
 else
 bnd2 (f_X11_fail S (2 : Int32)) (fun a11 S12 =>
 some (a11, S12))))
 else none)))
set_option maxRecDepth 20000 in
theorem v_X11_judge_e {ε : eT} {κ : kT} {N : Nat} (C : Act ε κ cX11_judge 5 RX11 6) {S : St} {res : (Int32 × St)} (X : RI ε κ (some .int) (some (.int res.1)) res.2) {v1 : Int32} (h : f_X11_judge N S v1 = some res) : V ε κ 5 0 [(0, .ref (eA ε 0)), (1, .int v1)] [] (wsOf ε S) 0 0 := by
  unfold f_X11_judge at h
  refine V_aload_n C 0 dX11_judge_0 rfl rfl ?_
  refine V_iload_n C 1 dX11_judge_1 rfl rfl ?_
  obtain ⟨o4, e1, h⟩ := bnd_s h
  cases o4 with
  | none =>
    replace h := oel_n h
    refine W_callvz C cf_X11_sheetAt (c_X11_sheetAt e1) q_ML_X11_302 (ws_X11 sk_0) rfl dX11_judge_2 (by decide) rfl rfl (Nat.le_of_ble_eq_true rfl) ?_
    refine V_astore_nN (lv' := [(2, .null), (0, .ref (eA ε 0)), (1, .int v1)]) C dX11_judge_5 rfl (by decide) rfl ?_
    refine V_aload_nN C 0 dX11_judge_6 rfl rfl ?_
    refine V_ifnonnullN C dX11_judge_7 ?_
    refine V_aload_n C 1 dX11_judge_10 rfl rfl ?_
    refine V_iconst C dX11_judge_11 kc_i_1 ?_
    obtain ⟨a14, S15, e13, h⟩ := bnd2_s h
    refine W_callvi C cf_X11_fail (c_X11_fail e13) q_ML_X11_82 (ws_X11 sk_0) rfl dX11_judge_12 (by decide) rfl rfl (Nat.le_of_ble_eq_true rfl) ?_
    exact V_iret C X dX11_judge_15 ⟨ri_1 h, ri_2 h⟩
  | some a2 =>
    replace h := oel_s h
    obtain ⟨hq3, h⟩ := gdt h
    refine W_callva C cf_X11_sheetAt (c_X11_sheetAt e1) q_ML_X11_302 (ws_X11 sk_0) rfl dX11_judge_2 (by decide) rfl rfl (Nat.le_of_ble_eq_true rfl) ?_
    refine V_astore_n (lv' := [(2, .ref (eA ε a2)), (0, .ref (eA ε 0)), (1, .int v1)]) C dX11_judge_5 rfl (by decide) rfl ?_
    refine V_aload_n C 0 dX11_judge_6 rfl rfl ?_
    refine V_ifnonnull C dX11_judge_7 rfl ?_
    refine V_aload_n C 0 dX11_judge_16 rfl rfl ?_
    obtain ⟨a6, e5, h⟩ := bnd_s h
    refine W_callvi C cf_X6_isMissing (c_X6_isMissing hq3 e5) q_ML_X11_312 (ws_X6 hq3) rfl dX11_judge_17 (by decide) rfl rfl (Nat.le_of_ble_eq_true rfl) ?_
    refine V_if_eq C dX11_judge_20 rfl (fun c7 => ?_) (fun c7 => ?_)
    · replace h := ifp c7 h
      refine V_aload_n C 1 dX11_judge_29 rfl rfl ?_
      refine G_X11_now (q := 0) C sk_0 q_FL_X11_21 dX11_judge_30 ?_
      refine G_X9_things (q := 8) C sk_8 q_FL_X11_118 dX11_judge_33 ?_
      obtain ⟨a9, e8, h⟩ := bnd_s h
      refine W_callvi C cf_X8_size (c_X8_size sk_18 e8) q_ML_X11_143 (ws_X8 sk_18) rfl dX11_judge_36 (by decide) rfl rfl (Nat.le_of_ble_eq_true rfl) ?_
      refine V_istore_n (lv' := [(3, .int a9), (2, .ref (eA ε a2)), (0, .ref (eA ε 0)), (1, .int v1)]) C dX11_judge_39 rfl (by decide) rfl ?_
      refine V_iconst C dX11_judge_40 kc_i_0 ?_
      refine V_istore (lv' := [(4, .int (0 : Int32)), (3, .int a9), (2, .ref (eA ε a2)), (0, .ref (eA ε 0)), (1, .int v1)]) C dX11_judge_41 (by decide) rfl ?_
      refine V_sub C [3, 2, 1, 0] rfl ?_
      exact v_X11_judge_43 C X N _ _ _ _ hq3 h
    · replace h := ifn c7 h
      refine V_aload_n C 1 dX11_judge_23 rfl rfl ?_
      refine V_iconst C dX11_judge_24 kc_i_2 ?_
      obtain ⟨a11, S12, e10, h⟩ := bnd2_s h
      refine W_callvi C cf_X11_fail (c_X11_fail e10) q_ML_X11_82 (ws_X11 sk_0) rfl dX11_judge_25 (by decide) rfl rfl (Nat.le_of_ble_eq_true rfl) ?_
      exact V_iret C X dX11_judge_28 ⟨ri_1 h, ri_2 h⟩
theorem c_X11_judge {ε : eT} {N : Nat} {S : St} {v1 : Int32} {res : (Int32 × St)} (h : f_X11_judge N S v1 = some res) : CI ε yX11_judge cX11_judge 5 (some .int) 6 [.ref (eA ε 0), .int v1] S (some (.int res.1)) res.2 := CI_of (by decide) (Nat.le_of_ble_eq_true rfl) rfl (fun κ C X => v_X11_judge_e C X h)
def f_X11_keep_16 (N : Nat) (S : St) : Option (Int32 × St) :=
 bnd2 (f_X11_fail S (1 : Int32)) (fun a2 S3 =>
 some (a2, S3))
set_option maxRecDepth 20000 in
theorem v_X11_keep_16 {ε : eT} {κ : kT} {N : Nat} (C : Act ε κ cX11_keep 4 RX11 4) {S : St} {res : (Int32 × St)} (X : RI ε κ (some .int) (some (.int res.1)) res.2) (h : f_X11_keep_16 N S = some res) : V ε κ 4 16 [(0, .ref (eA ε 0))] [] (wsOf ε S) 0 0 := by
  unfold f_X11_keep_16 at h
  refine V_aload_n C 0 dX11_keep_16 rfl rfl ?_
  refine V_iconst C dX11_keep_17 kc_i_1 ?_
  obtain ⟨a2, S3, e1, h⟩ := bnd2_s h
  refine W_callvi C cf_X11_fail (c_X11_fail e1) q_ML_X11_82 (ws_X11 sk_0) rfl dX11_keep_18 (by decide) rfl rfl (Nat.le_of_ble_eq_true rfl) ?_
  exact V_iret C X dX11_keep_21 ⟨ri_1 h, ri_2 h⟩
def f_X11_keep_98 (N : Nat) (S : St) (v1 : Int32) (v2 : Int32) : Option (Int32 × St) :=
 bnd2 (f_X5_swap S 25 v1 v2) (fun a2 S3 =>
 some (a2, S3))
set_option maxRecDepth 20000 in
theorem v_X11_keep_98 {ε : eT} {κ : kT} {N : Nat} (C : Act ε κ cX11_keep 4 RX11 4) {S : St} {res : (Int32 × St)} (X : RI ε κ (some .int) (some (.int res.1)) res.2) {v1 : Int32} {v2 : Int32} (h : f_X11_keep_98 N S v1 v2 = some res) : V ε κ 4 98 [(0, .ref (eA ε 0)), (1, .int v1), (2, .int v2)] [] (wsOf ε S) 0 0 := by
  unfold f_X11_keep_98 at h
  refine V_aload_n C 0 dX11_keep_98 rfl rfl ?_
  refine G_X11_now (q := 0) C sk_0 q_FL_X11_21 dX11_keep_99 ?_
  refine G_X9_things (q := 8) C sk_8 q_FL_X11_118 dX11_keep_102 ?_
  refine G_X8_kept (q := 18) C sk_18 q_FL_X11_159 dX11_keep_105 ?_
  refine V_iload_n C 1 dX11_keep_108 rfl rfl ?_
  refine V_iload_n C 2 dX11_keep_109 rfl rfl ?_
  obtain ⟨a2, S3, e1, h⟩ := bnd2_s h
  refine W_callvi C cf_X5_swap (c_X5_swap sk_25 e1) q_ML_X11_139 (ws_X5 sk_25) rfl dX11_keep_110 (by decide) rfl rfl (Nat.le_of_ble_eq_true rfl) ?_
  exact V_iret C X dX11_keep_113 ⟨ri_1 h, ri_2 h⟩
def f_X11_keep_49 (N : Nat) (S : St) (v1 : Int32) (v2 : Int32) (s0 : Int32) : Option (Int32 × St) :=
 (if s0 = 0 then
 f_X11_keep_98 N S v1 v2
 else
 bnd (f_X5_at S 19 v1) (fun a3 =>
 bnd (f_X8_keptBy N S 18 a3) (fun a5 =>
 bnd (f_X5_at S 35 (3 : Int32)) (fun a7 =>
 (if a5 < a7 then
 f_X11_keep_98 N S v1 v2
 else
 bnd2 (f_X11_fail S (3 : Int32)) (fun a10 S11 =>
 some (a10, S11)))))))
set_option maxRecDepth 20000 in
theorem v_X11_keep_49 {ε : eT} {κ : kT} {N : Nat} (C : Act ε κ cX11_keep 4 RX11 4) {S : St} {res : (Int32 × St)} (X : RI ε κ (some .int) (some (.int res.1)) res.2) {v1 : Int32} {v2 : Int32} {s0 : Int32} (h : f_X11_keep_49 N S v1 v2 s0 = some res) : V ε κ 4 49 [(0, .ref (eA ε 0)), (1, .int v1), (2, .int v2)] [.int s0] (wsOf ε S) 0 0 := by
  unfold f_X11_keep_49 at h
  refine V_istore_n (lv' := [(3, .int s0), (0, .ref (eA ε 0)), (1, .int v1), (2, .int v2)]) C dX11_keep_49 rfl (by decide) rfl ?_
  refine V_iload_n C 0 dX11_keep_50 rfl rfl ?_
  refine V_if_eq C dX11_keep_51 rfl (fun c1 => ?_) (fun c1 => ?_)
  · replace h := ifp c1 h
    refine V_sub C [1, 2, 3] rfl ?_
    exact v_X11_keep_98 C X h
  · replace h := ifn c1 h
    refine V_aload_n C 1 dX11_keep_54 rfl rfl ?_
    refine G_X11_now (q := 0) C sk_0 q_FL_X11_21 dX11_keep_55 ?_
    refine G_X9_things (q := 8) C sk_8 q_FL_X11_118 dX11_keep_58 ?_
    refine V_aload_n C 1 dX11_keep_61 rfl rfl ?_
    refine G_X11_now (q := 0) C sk_0 q_FL_X11_21 dX11_keep_62 ?_
    refine G_X9_things (q := 8) C sk_8 q_FL_X11_118 dX11_keep_65 ?_
    refine G_X8_owners (q := 18) C sk_18 q_FL_X11_150 dX11_keep_68 ?_
    refine V_iload_n C 2 dX11_keep_71 rfl rfl ?_
    obtain ⟨a3, e2, h⟩ := bnd_s h
    refine W_callvi C cf_X5_at (c_X5_at sk_19 e2) q_ML_X11_106 (ws_X5 sk_19) rfl dX11_keep_72 (by decide) rfl rfl (Nat.le_of_ble_eq_true rfl) ?_
    obtain ⟨a5, e4, h⟩ := bnd_s h
    refine W_callvi C cf_X8_keptBy (c_X8_keptBy sk_18 e4) q_ML_X11_127 (ws_X8 sk_18) rfl dX11_keep_75 (by decide) rfl rfl (Nat.le_of_ble_eq_true rfl) ?_
    refine V_aload_n C 1 dX11_keep_78 rfl rfl ?_
    refine G_X11_now (q := 0) C sk_0 q_FL_X11_21 dX11_keep_79 ?_
    refine G_X9_rules (q := 8) C sk_8 q_FL_X11_170 dX11_keep_82 ?_
    refine V_iconst C dX11_keep_85 kc_i_3 ?_
    obtain ⟨a7, e6, h⟩ := bnd_s h
    refine W_callvi C cf_X5_at (c_X5_at sk_35 e6) q_ML_X11_106 (ws_X5 sk_35) rfl dX11_keep_86 (by decide) rfl rfl (Nat.le_of_ble_eq_true rfl) ?_
    refine V_icmp_lt C dX11_keep_89 rfl (fun c8 => ?_) (fun c8 => ?_)
    · replace h := ifp c8 h
      refine V_sub C [1, 2, 3] rfl ?_
      exact v_X11_keep_98 C X h
    · replace h := ifn c8 h
      refine V_aload_n C 1 dX11_keep_92 rfl rfl ?_
      refine V_iconst C dX11_keep_93 kc_i_3 ?_
      obtain ⟨a10, S11, e9, h⟩ := bnd2_s h
      refine W_callvi C cf_X11_fail (c_X11_fail e9) q_ML_X11_82 (ws_X11 sk_0) rfl dX11_keep_94 (by decide) rfl rfl (Nat.le_of_ble_eq_true rfl) ?_
      exact V_iret C X dX11_keep_97 ⟨ri_1 h, ri_2 h⟩
def f_X11_keep_48 (N : Nat) (S : St) (v1 : Int32) (v2 : Int32) : Option (Int32 × St) :=
 f_X11_keep_49 N S v1 v2 (0 : Int32)
set_option maxRecDepth 20000 in
theorem v_X11_keep_48 {ε : eT} {κ : kT} {N : Nat} (C : Act ε κ cX11_keep 4 RX11 4) {S : St} {res : (Int32 × St)} (X : RI ε κ (some .int) (some (.int res.1)) res.2) {v1 : Int32} {v2 : Int32} (h : f_X11_keep_48 N S v1 v2 = some res) : V ε κ 4 48 [(0, .ref (eA ε 0)), (1, .int v1), (2, .int v2)] [] (wsOf ε S) 0 0 := by
  unfold f_X11_keep_48 at h
  refine V_iconst C dX11_keep_48 kc_i_0 ?_
  exact v_X11_keep_49 C X h
def f_X11_keep (N : Nat) (S : St) (v1 : Int32) (v2 : Int32) : Option (Int32 × St) :=
 bnd (f_X11_isThing S v1) (fun a2 =>
 (if a2 = 0 then
 f_X11_keep_16 N S
 else
 bnd (f_X11_within S v2 (1 : Int32)) (fun a5 =>
 (if a5 = 0 then
 f_X11_keep_16 N S
 else
 (if v2 = (1 : Int32) then
 bnd (f_X5_at S 25 v1) (fun a9 =>
 (if a9 = 0 then
 f_X11_keep_49 N S v1 v2 (1 : Int32)
 else
 f_X11_keep_48 N S v1 v2))
 else
 f_X11_keep_48 N S v1 v2)))))
set_option maxRecDepth 20000 in
theorem v_X11_keep_e {ε : eT} {κ : kT} {N : Nat} (C : Act ε κ cX11_keep 4 RX11 4) {S : St} {res : (Int32 × St)} (X : RI ε κ (some .int) (some (.int res.1)) res.2) {v1 : Int32} {v2 : Int32} (h : f_X11_keep N S v1 v2 = some res) : V ε κ 4 0 [(0, .ref (eA ε 0)), (1, .int v1), (2, .int v2)] [] (wsOf ε S) 0 0 := by
  unfold f_X11_keep at h
  refine V_aload_n C 0 dX11_keep_0 rfl rfl ?_
  refine V_iload_n C 1 dX11_keep_1 rfl rfl ?_
  obtain ⟨a2, e1, h⟩ := bnd_s h
  refine W_callvi C cf_X11_isThing (c_X11_isThing e1) q_ML_X11_147 (ws_X11 sk_0) rfl dX11_keep_2 (by decide) rfl rfl (Nat.le_of_ble_eq_true rfl) ?_
  refine V_if_eq C dX11_keep_5 rfl (fun c3 => ?_) (fun c3 => ?_)
  · replace h := ifp c3 h
    refine V_sub C [0] rfl ?_
    exact v_X11_keep_16 C X h
  · replace h := ifn c3 h
    refine V_iload_n C 2 dX11_keep_8 rfl rfl ?_
    refine V_iconst C dX11_keep_9 kc_i_1 ?_
    obtain ⟨a5, e4, h⟩ := bnd_s h
    refine W_callsi C cf_X11_within (c_X11_within e4) q_ML_X11_75 dX11_keep_10 (by decide) rfl rfl (Nat.le_of_ble_eq_true rfl) ?_
    refine V_if_ne C dX11_keep_13 rfl (fun c6 => ?_) (fun c6 => ?_)
    · replace h := ifn c6 h
      refine V_iload_n C 2 dX11_keep_22 rfl rfl ?_
      refine V_iconst C dX11_keep_23 kc_i_1 ?_
      refine V_icmp_ne C dX11_keep_24 rfl (fun c7 => ?_) (fun c7 => ?_)
      · replace h := ifn c7 h
        exact v_X11_keep_48 C X h
      · replace h := ifp c7 h
        refine V_aload_n C 0 dX11_keep_27 rfl rfl ?_
        refine G_X11_now (q := 0) C sk_0 q_FL_X11_21 dX11_keep_28 ?_
        refine G_X9_things (q := 8) C sk_8 q_FL_X11_118 dX11_keep_31 ?_
        refine G_X8_kept (q := 18) C sk_18 q_FL_X11_159 dX11_keep_34 ?_
        refine V_iload_n C 1 dX11_keep_37 rfl rfl ?_
        obtain ⟨a9, e8, h⟩ := bnd_s h
        refine W_callvi C cf_X5_at (c_X5_at sk_25 e8) q_ML_X11_106 (ws_X5 sk_25) rfl dX11_keep_38 (by decide) rfl rfl (Nat.le_of_ble_eq_true rfl) ?_
        refine V_if_ne C dX11_keep_41 rfl (fun c10 => ?_) (fun c10 => ?_)
        · replace h := ifn c10 h
          exact v_X11_keep_48 C X h
        · replace h := ifp c10 h
          refine V_iconst C dX11_keep_44 kc_i_1 ?_
          refine V_goto C dX11_keep_45 rfl ?_
          exact v_X11_keep_49 C X h
    · replace h := ifp c6 h
      refine V_sub C [0] rfl ?_
      exact v_X11_keep_16 C X h
theorem c_X11_keep {ε : eT} {N : Nat} {S : St} {v1 : Int32} {v2 : Int32} {res : (Int32 × St)} (h : f_X11_keep N S v1 v2 = some res) : CI ε yX11_keep cX11_keep 4 (some .int) 4 [.ref (eA ε 0), .int v1, .int v2] S (some (.int res.1)) res.2 := CI_of (by decide) (Nat.le_of_ble_eq_true rfl) rfl (fun κ C X => v_X11_keep_e C X h)
def f_X11_mended (N : Nat) (S : St) (v1 : Int32) : Option (Int32 × St) :=
 bnd (f_X11_isThing S v1) (fun a2 =>
 (if a2 = 0 then
 bnd2 (f_X11_fail S (1 : Int32)) (fun a9 S10 =>
 some (a9, S10))
 else
 bnd2 (f_X9_wouldMend N S 8 v1) (fun a5 S6 =>
 (if a5 = 0 then
 some ((0 : Int32), S6)
 else
 some ((1 : Int32), S6)))))
set_option maxRecDepth 20000 in
theorem v_X11_mended_e {ε : eT} {κ : kT} {N : Nat} (C : Act ε κ cX11_mended 2 RX11 6) {S : St} {res : (Int32 × St)} (X : RI ε κ (some .int) (some (.int res.1)) res.2) {v1 : Int32} (h : f_X11_mended N S v1 = some res) : V ε κ 2 0 [(0, .ref (eA ε 0)), (1, .int v1)] [] (wsOf ε S) 0 0 := by
  unfold f_X11_mended at h
  refine V_aload_n C 0 dX11_mended_0 rfl rfl ?_
  refine V_iload_n C 1 dX11_mended_1 rfl rfl ?_
  obtain ⟨a2, e1, h⟩ := bnd_s h
  refine W_callvi C cf_X11_isThing (c_X11_isThing e1) q_ML_X11_147 (ws_X11 sk_0) rfl dX11_mended_2 (by decide) rfl rfl (Nat.le_of_ble_eq_true rfl) ?_
  refine V_if_ne C dX11_mended_5 rfl (fun c3 => ?_) (fun c3 => ?_)
  · replace h := ifn c3 h
    refine V_aload_n C 0 dX11_mended_14 rfl rfl ?_
    refine G_X11_now (q := 0) C sk_0 q_FL_X11_21 dX11_mended_15 ?_
    refine V_iload_n C 1 dX11_mended_18 rfl rfl ?_
    obtain ⟨a5, S6, e4, h⟩ := bnd2_s h
    refine W_callvi C cf_X9_wouldMend (c_X9_wouldMend sk_8 e4) q_ML_X11_229 (ws_X9 sk_8) rfl dX11_mended_19 (by decide) rfl rfl (Nat.le_of_ble_eq_true rfl) ?_
    refine V_if_eq C dX11_mended_22 rfl (fun c7 => ?_) (fun c7 => ?_)
    · replace h := ifp c7 h
      refine V_iconst C dX11_mended_29 kc_i_0 ?_
      exact V_iret C X dX11_mended_30 ⟨ri_1 h, ri_2 h⟩
    · replace h := ifn c7 h
      refine V_iconst C dX11_mended_25 kc_i_1 ?_
      refine V_goto C dX11_mended_26 rfl ?_
      exact V_iret C X dX11_mended_30 ⟨ri_1 h, ri_2 h⟩
  · replace h := ifp c3 h
    refine V_aload_n C 0 dX11_mended_8 rfl rfl ?_
    refine V_iconst C dX11_mended_9 kc_i_1 ?_
    obtain ⟨a9, S10, e8, h⟩ := bnd2_s h
    refine W_callvi C cf_X11_fail (c_X11_fail e8) q_ML_X11_82 (ws_X11 sk_0) rfl dX11_mended_10 (by decide) rfl rfl (Nat.le_of_ble_eq_true rfl) ?_
    exact V_iret C X dX11_mended_13 ⟨ri_1 h, ri_2 h⟩
theorem c_X11_mended {ε : eT} {N : Nat} {S : St} {v1 : Int32} {res : (Int32 × St)} (h : f_X11_mended N S v1 = some res) : CI ε yX11_mended cX11_mended 2 (some .int) 6 [.ref (eA ε 0), .int v1] S (some (.int res.1)) res.2 := CI_of (by decide) (Nat.le_of_ble_eq_true rfl) rfl (fun κ C X => v_X11_mended_e C X h)
