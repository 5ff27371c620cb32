/-! the law's calls, one by one, and its loop -/
section
variable {K : Kx} {l : Launch} {m : MethodId} {H0 : Heap} {bS Ln : Nat} {xs : Nat → Int32} {w : HW} {a o i : Nat}
set_option maxRecDepth 100000 in
theorem lc_0 (G : GL l room_1 K m RL cL_law 4 H0 bS Ln xs w) (hW : WFK K) (ha : (kG K a).1 = 11) (ho : (kG K o).1 = 12) (hi1 : vp_in (nI i + 1) Ln) (hi2 : vp_in (nI i + 2) Ln) (hi3 : vp_in (nI i + 3) Ln) (hi4 : vp_in (nI i + 4) Ln) (hi5 : vp_in (nI i + 5) Ln) (I : MI) (J : MJ) (B : MR) (hLI : LI a o I) (hnext : ∀ (I : MI) (J : MJ) (B : MR), LI a o I → Jg K m 4 H0 w 955 [(0, .ref bS), (1, .ref a), (2, .ref o), (3, .int (nI i))] [] (I, J, B)) : Jg K m 4 H0 w 164 [(0, .ref bS), (1, .ref a), (2, .ref o), (3, .int (nI i))] [] (I, J, B) := by
  refine jl_aload_n G 1 1 dL_law_164 rfl rfl ?_
  refine jl_aload_n G 0 0 dL_law_165 rfl rfl ?_
  refine jl_iload_n G 3 3 dL_law_166 rfl rfl ?_
  refine jl_iconst G (1 : Int32) dL_law_167 (by decide) ?_
  refine jl_iadd G dL_law_168 ?_
  refine jl_sld G hi1 dL_law_169 ?_
  refine jl_aload_n G 0 0 dL_law_170 rfl rfl ?_
  refine jl_iload_n G 3 3 dL_law_171 rfl rfl ?_
  refine jl_iconst G (2 : Int32) dL_law_172 (by decide) ?_
  refine jl_iadd G dL_law_173 ?_
  refine jl_sld G hi2 dL_law_174 ?_
  refine jl_aload_n G 0 0 dL_law_175 rfl rfl ?_
  refine jl_iload_n G 3 3 dL_law_176 rfl rfl ?_
  refine jl_iconst G (3 : Int32) dL_law_177 (by decide) ?_
  refine jl_iadd G dL_law_178 ?_
  refine jl_sld G hi3 dL_law_179 ?_
  refine jl_aload_n G 0 0 dL_law_180 rfl rfl ?_
  refine jl_iload_n G 3 3 dL_law_181 rfl rfl ?_
  refine jl_iconst G (4 : Int32) dL_law_182 (by decide) ?_
  refine jl_iadd G dL_law_183 ?_
  refine jl_sld G hi4 dL_law_184 ?_
  refine jl_aload_n G 0 0 dL_law_185 rfl rfl ?_
  refine jl_iload_n G 3 3 dL_law_186 rfl rfl ?_
  refine jl_iconst G (5 : Int32) dL_law_187 (by decide) ?_
  refine jl_iadd G dL_law_188 ?_
  refine jl_sld G hi5 dL_law_189 ?_
  refine jl_ci (rl_V G hW (ci := 10) (n := 5) (As := [.int (xs (ix (nI i + 1))), .int (xs (ix (nI i + 2))), .int (xs (ix (nI i + 3))), .int (xs (ix (nI i + 4))), .int (xs (ix (nI i + 5)))]) (rest := []) (c_X9_feed K hW l a (xs (ix (nI i + 1))) (xs (ix (nI i + 2))) (xs (ix (nI i + 3))) (xs (ix (nI i + 4))) (xs (ix (nI i + 5))) ha I J B _ (st_feed (xs (ix (nI i + 1))) (xs (ix (nI i + 2))) (xs (ix (nI i + 3))) (xs (ix (nI i + 4))) (xs (ix (nI i + 5))) hLI)) ha (by decide) rfl ml_L_13 im_X9_feed se_X9_feed in_X9 co_X9_feed rfl (by decide +kernel) rfl rfl (Nat.le_of_ble_eq_true rfl) (Nat.le_of_ble_eq_true rfl) rfl rfl (Nat.le_of_ble_eq_true rfl) dL_law_190) (fun v0 I1 h1 => ?_)
  refine jl_aload_n G 2 2 dL_law_193 rfl rfl ?_
  refine jl_aload_n G 0 0 dL_law_194 rfl rfl ?_
  refine jl_iload_n G 3 3 dL_law_195 rfl rfl ?_
  refine jl_iconst G (1 : Int32) dL_law_196 (by decide) ?_
  refine jl_iadd G dL_law_197 ?_
  refine jl_sld G hi1 dL_law_198 ?_
  refine jl_aload_n G 0 0 dL_law_199 rfl rfl ?_
  refine jl_iload_n G 3 3 dL_law_200 rfl rfl ?_
  refine jl_iconst G (2 : Int32) dL_law_201 (by decide) ?_
  refine jl_iadd G dL_law_202 ?_
  refine jl_sld G hi2 dL_law_203 ?_
  refine jl_aload_n G 0 0 dL_law_204 rfl rfl ?_
  refine jl_iload_n G 3 3 dL_law_205 rfl rfl ?_
  refine jl_iconst G (3 : Int32) dL_law_206 (by decide) ?_
  refine jl_iadd G dL_law_207 ?_
  refine jl_sld G hi3 dL_law_208 ?_
  refine jl_aload_n G 0 0 dL_law_209 rfl rfl ?_
  refine jl_iload_n G 3 3 dL_law_210 rfl rfl ?_
  refine jl_iconst G (4 : Int32) dL_law_211 (by decide) ?_
  refine jl_iadd G dL_law_212 ?_
  refine jl_sld G hi4 dL_law_213 ?_
  refine jl_aload_n G 0 0 dL_law_214 rfl rfl ?_
  refine jl_iload_n G 3 3 dL_law_215 rfl rfl ?_
  refine jl_iconst G (5 : Int32) dL_law_216 (by decide) ?_
  refine jl_iadd G dL_law_217 ?_
  refine jl_sld G hi5 dL_law_218 ?_
  refine jl_ci (rl_V G hW (ci := 11) (n := 5) (As := [.int (xs (ix (nI i + 1))), .int (xs (ix (nI i + 2))), .int (xs (ix (nI i + 3))), .int (xs (ix (nI i + 4))), .int (xs (ix (nI i + 5)))]) (rest := [.int v0]) (c_X10_feed K hW l o (xs (ix (nI i + 1))) (xs (ix (nI i + 2))) (xs (ix (nI i + 3))) (xs (ix (nI i + 4))) (xs (ix (nI i + 5))) ho I1 J B _ h1) ho (by decide) rfl ml_L_17 im_X10_feed se_X10_feed in_X10 co_X10_feed rfl (by decide +kernel) rfl rfl (Nat.le_of_ble_eq_true rfl) (Nat.le_of_ble_eq_true rfl) rfl rfl (Nat.le_of_ble_eq_true rfl) dL_law_219) (fun v1 I2 h2 => ?_)
  exact jl_icmp_eq G 955 dL_law_222 (by decide) (fun _ => hnext _ _ _ h2.2) (fun c => absurd h2.1 c)
set_option maxRecDepth 100000 in
theorem lc_1 (G : GL l room_1 K m RL cL_law 4 H0 bS Ln xs w) (hW : WFK K) (ha : (kG K a).1 = 11) (ho : (kG K o).1 = 12) (hi1 : vp_in (nI i + 1) Ln) (hi2 : vp_in (nI i + 2) Ln) (hi3 : vp_in (nI i + 3) Ln) (hi4 : vp_in (nI i + 4) Ln) (hi5 : vp_in (nI i + 5) Ln) (I : MI) (J : MJ) (B : MR) (hLI : LI a o I) (hnext : ∀ (I : MI) (J : MJ) (B : MR), LI a o I → Jg K m 4 H0 w 955 [(0, .ref bS), (1, .ref a), (2, .ref o), (3, .int (nI i))] [] (I, J, B)) : Jg K m 4 H0 w 227 [(0, .ref bS), (1, .ref a), (2, .ref o), (3, .int (nI i))] [] (I, J, B) := by
  refine jl_aload_n G 1 1 dL_law_227 rfl rfl ?_
  refine jl_aload_n G 0 0 dL_law_228 rfl rfl ?_
  refine jl_iload_n G 3 3 dL_law_229 rfl rfl ?_
  refine jl_iconst G (1 : Int32) dL_law_230 (by decide) ?_
  refine jl_iadd G dL_law_231 ?_
  refine jl_sld G hi1 dL_law_232 ?_
  refine jl_ci (rl_V G hW (ci := 10) (n := 1) (As := [.int (xs (ix (nI i + 1)))]) (rest := []) (c_X9_end K hW l a (xs (ix (nI i + 1))) ha I J B _ (st_end (xs (ix (nI i + 1))) hLI)) ha (by decide) rfl ml_L_18 im_X9_end se_X9_end in_X9 co_X9_end rfl (by decide +kernel) rfl rfl (Nat.le_of_ble_eq_true rfl) (Nat.le_of_ble_eq_true rfl) rfl rfl (Nat.le_of_ble_eq_true rfl) dL_law_233) (fun v0 I1 h1 => ?_)
  refine jl_aload_n G 2 2 dL_law_236 rfl rfl ?_
  refine jl_aload_n G 0 0 dL_law_237 rfl rfl ?_
  refine jl_iload_n G 3 3 dL_law_238 rfl rfl ?_
  refine jl_iconst G (1 : Int32) dL_law_239 (by decide) ?_
  refine jl_iadd G dL_law_240 ?_
  refine jl_sld G hi1 dL_law_241 ?_
  refine jl_ci (rl_V G hW (ci := 11) (n := 1) (As := [.int (xs (ix (nI i + 1)))]) (rest := [.int v0]) (c_X10_end K hW l o (xs (ix (nI i + 1))) ho I1 J B _ h1) ho (by decide) rfl ml_L_22 im_X10_end se_X10_end in_X10 co_X10_end rfl (by decide +kernel) rfl rfl (Nat.le_of_ble_eq_true rfl) (Nat.le_of_ble_eq_true rfl) rfl rfl (Nat.le_of_ble_eq_true rfl) dL_law_242) (fun v1 I2 h2 => ?_)
  exact jl_icmp_eq G 955 dL_law_245 (by decide) (fun _ => hnext _ _ _ h2.2) (fun c => absurd h2.1 c)
set_option maxRecDepth 100000 in
theorem lc_2 (G : GL l room_1 K m RL cL_law 4 H0 bS Ln xs w) (hW : WFK K) (ha : (kG K a).1 = 11) (ho : (kG K o).1 = 12) (hi1 : vp_in (nI i + 1) Ln) (hi2 : vp_in (nI i + 2) Ln) (hi3 : vp_in (nI i + 3) Ln) (hi4 : vp_in (nI i + 4) Ln) (hi5 : vp_in (nI i + 5) Ln) (I : MI) (J : MJ) (B : MR) (hLI : LI a o I) (hnext : ∀ (I : MI) (J : MJ) (B : MR), LI a o I → Jg K m 4 H0 w 955 [(0, .ref bS), (1, .ref a), (2, .ref o), (3, .int (nI i))] [] (I, J, B)) : Jg K m 4 H0 w 250 [(0, .ref bS), (1, .ref a), (2, .ref o), (3, .int (nI i))] [] (I, J, B) := by
  refine jl_aload_n G 1 1 dL_law_250 rfl rfl ?_
  refine jl_ci (rl_V G hW (ci := 10) (n := 0) (As := []) (rest := []) (c_X9_program K hW l a ha I J B _ (st_program (J := J) hLI)) ha (by decide) rfl ml_L_23 im_X9_program se_X9_program in_X9 co_X9_program rfl (by decide +kernel) rfl rfl (Nat.le_of_ble_eq_true rfl) (Nat.le_of_ble_eq_true rfl) rfl rfl (Nat.le_of_ble_eq_true rfl) dL_law_251) (fun v0 ⟨I1, B1⟩ h1 => ?_)
  refine jl_aload_n G 2 2 dL_law_254 rfl rfl ?_
  refine jl_ci (rl_V G hW (ci := 11) (n := 0) (As := []) (rest := [.int v0]) (c_X10_program K hW l o ho I1 J B1 _ h1) ho (by decide) rfl ml_L_27 im_X10_program se_X10_program in_X10 co_X10_program rfl (by decide +kernel) rfl rfl (Nat.le_of_ble_eq_true rfl) (Nat.le_of_ble_eq_true rfl) rfl rfl (Nat.le_of_ble_eq_true rfl) dL_law_255) (fun v1 ⟨I2, J2⟩ h2 => ?_)
  exact jl_icmp_eq G 955 dL_law_258 (by decide) (fun _ => hnext _ _ _ h2.2) (fun c => absurd h2.1 c)
set_option maxRecDepth 100000 in
theorem lc_3 (G : GL l room_1 K m RL cL_law 4 H0 bS Ln xs w) (hW : WFK K) (ha : (kG K a).1 = 11) (ho : (kG K o).1 = 12) (hi1 : vp_in (nI i + 1) Ln) (hi2 : vp_in (nI i + 2) Ln) (hi3 : vp_in (nI i + 3) Ln) (hi4 : vp_in (nI i + 4) Ln) (hi5 : vp_in (nI i + 5) Ln) (I : MI) (J : MJ) (B : MR) (hLI : LI a o I) (hnext : ∀ (I : MI) (J : MJ) (B : MR), LI a o I → Jg K m 4 H0 w 955 [(0, .ref bS), (1, .ref a), (2, .ref o), (3, .int (nI i))] [] (I, J, B)) : Jg K m 4 H0 w 263 [(0, .ref bS), (1, .ref a), (2, .ref o), (3, .int (nI i))] [] (I, J, B) := by
  refine jl_aload_n G 1 1 dL_law_263 rfl rfl ?_
  refine jl_aload_n G 0 0 dL_law_264 rfl rfl ?_
  refine jl_iload_n G 3 3 dL_law_265 rfl rfl ?_
  refine jl_iconst G (1 : Int32) dL_law_266 (by decide) ?_
  refine jl_iadd G dL_law_267 ?_
  refine jl_sld G hi1 dL_law_268 ?_
  refine jl_ci (rl_V G hW (ci := 10) (n := 1) (As := [.int (xs (ix (nI i + 1)))]) (rest := []) (c_X9_fault K hW l a (xs (ix (nI i + 1))) ha I J B _ (st_fault (xs (ix (nI i + 1))) hLI)) ha (by decide) rfl ml_L_28 im_X9_fault se_X9_fault in_X9 co_X9_fault rfl (by decide +kernel) rfl rfl (Nat.le_of_ble_eq_true rfl) (Nat.le_of_ble_eq_true rfl) rfl rfl (Nat.le_of_ble_eq_true rfl) dL_law_269) (fun v0 _ h1 => ?_)
  refine jl_aload_n G 2 2 dL_law_272 rfl rfl ?_
  refine jl_aload_n G 0 0 dL_law_273 rfl rfl ?_
  refine jl_iload_n G 3 3 dL_law_274 rfl rfl ?_
  refine jl_iconst G (1 : Int32) dL_law_275 (by decide) ?_
  refine jl_iadd G dL_law_276 ?_
  refine jl_sld G hi1 dL_law_277 ?_
  refine jl_ci (rl_V G hW (ci := 11) (n := 1) (As := [.int (xs (ix (nI i + 1)))]) (rest := [.int v0]) (c_X10_fault K hW l o (xs (ix (nI i + 1))) ho I J B _ h1) ho (by decide) rfl ml_L_31 im_X10_fault se_X10_fault in_X10 co_X10_fault rfl (by decide +kernel) rfl rfl (Nat.le_of_ble_eq_true rfl) (Nat.le_of_ble_eq_true rfl) rfl rfl (Nat.le_of_ble_eq_true rfl) dL_law_278) (fun v1 _ h2 => ?_)
  exact jl_icmp_eq G 955 dL_law_281 (by decide) (fun _ => hnext _ _ _ hLI) (fun c => absurd h2 c)
set_option maxRecDepth 100000 in
theorem lc_4 (G : GL l room_1 K m RL cL_law 4 H0 bS Ln xs w) (hW : WFK K) (ha : (kG K a).1 = 11) (ho : (kG K o).1 = 12) (hi1 : vp_in (nI i + 1) Ln) (hi2 : vp_in (nI i + 2) Ln) (hi3 : vp_in (nI i + 3) Ln) (hi4 : vp_in (nI i + 4) Ln) (hi5 : vp_in (nI i + 5) Ln) (I : MI) (J : MJ) (B : MR) (hLI : LI a o I) (hnext : ∀ (I : MI) (J : MJ) (B : MR), LI a o I → Jg K m 4 H0 w 955 [(0, .ref bS), (1, .ref a), (2, .ref o), (3, .int (nI i))] [] (I, J, B)) : Jg K m 4 H0 w 286 [(0, .ref bS), (1, .ref a), (2, .ref o), (3, .int (nI i))] [] (I, J, B) := by
  refine jl_aload_n G 1 1 dL_law_286 rfl rfl ?_
  refine jl_aload_n G 0 0 dL_law_287 rfl rfl ?_
  refine jl_iload_n G 3 3 dL_law_288 rfl rfl ?_
  refine jl_iconst G (1 : Int32) dL_law_289 (by decide) ?_
  refine jl_iadd G dL_law_290 ?_
  refine jl_sld G hi1 dL_law_291 ?_
  refine jl_ci (rl_V G hW (ci := 10) (n := 1) (As := [.int (xs (ix (nI i + 1)))]) (rest := []) (c_X9_cycles K hW l a (xs (ix (nI i + 1))) ha I J B _ (st_cycles (xs (ix (nI i + 1))) hLI)) ha (by decide) rfl ml_L_32 im_X9_cycles se_X9_cycles in_X9 co_X9_cycles rfl (by decide +kernel) rfl rfl (Nat.le_of_ble_eq_true rfl) (Nat.le_of_ble_eq_true rfl) rfl rfl (Nat.le_of_ble_eq_true rfl) dL_law_292) (fun v0 I1 h1 => ?_)
  refine jl_aload_n G 2 2 dL_law_295 rfl rfl ?_
  refine jl_aload_n G 0 0 dL_law_296 rfl rfl ?_
  refine jl_iload_n G 3 3 dL_law_297 rfl rfl ?_
  refine jl_iconst G (1 : Int32) dL_law_298 (by decide) ?_
  refine jl_iadd G dL_law_299 ?_
  refine jl_sld G hi1 dL_law_300 ?_
  refine jl_ci (rl_V G hW (ci := 11) (n := 1) (As := [.int (xs (ix (nI i + 1)))]) (rest := [.int v0]) (c_X10_cycles K hW l o (xs (ix (nI i + 1))) ho I1 J B _ h1) ho (by decide) rfl ml_L_35 im_X10_cycles se_X10_cycles in_X10 co_X10_cycles rfl (by decide +kernel) rfl rfl (Nat.le_of_ble_eq_true rfl) (Nat.le_of_ble_eq_true rfl) rfl rfl (Nat.le_of_ble_eq_true rfl) dL_law_301) (fun v1 I2 h2 => ?_)
  exact jl_icmp_eq G 955 dL_law_304 (by decide) (fun _ => hnext _ _ _ h2.2) (fun c => absurd h2.1 c)
set_option maxRecDepth 100000 in
theorem lc_5 (G : GL l room_1 K m RL cL_law 4 H0 bS Ln xs w) (hW : WFK K) (ha : (kG K a).1 = 11) (ho : (kG K o).1 = 12) (hi1 : vp_in (nI i + 1) Ln) (hi2 : vp_in (nI i + 2) Ln) (hi3 : vp_in (nI i + 3) Ln) (hi4 : vp_in (nI i + 4) Ln) (hi5 : vp_in (nI i + 5) Ln) (I : MI) (J : MJ) (B : MR) (hLI : LI a o I) (hnext : ∀ (I : MI) (J : MJ) (B : MR), LI a o I → Jg K m 4 H0 w 955 [(0, .ref bS), (1, .ref a), (2, .ref o), (3, .int (nI i))] [] (I, J, B)) : Jg K m 4 H0 w 309 [(0, .ref bS), (1, .ref a), (2, .ref o), (3, .int (nI i))] [] (I, J, B) := by
  refine jl_aload_n G 1 1 dL_law_309 rfl rfl ?_
  refine jl_cv (rl_V G hW (ci := 10) (n := 0) (As := []) (rest := []) (c_X9_begin K hW l a ha I J B _ (st_begin hLI)) ha (by decide) rfl ml_L_36 im_X9_begin se_X9_begin in_X9 co_X9_begin rfl (by decide +kernel) rfl rfl (Nat.le_of_ble_eq_true rfl) (Nat.le_of_ble_eq_true rfl) rfl rfl (Nat.le_of_ble_eq_true rfl) dL_law_310) (fun I1 h1 => ?_)
  refine jl_aload_n G 2 2 dL_law_313 rfl rfl ?_
  refine jl_cv (rl_V G hW (ci := 11) (n := 0) (As := []) (rest := []) (c_X10_begin K hW l o ho I1 J B _ h1) ho (by decide) rfl ml_L_39 im_X10_begin se_X10_begin in_X10 co_X10_begin rfl (by decide +kernel) rfl rfl (Nat.le_of_ble_eq_true rfl) (Nat.le_of_ble_eq_true rfl) rfl rfl (Nat.le_of_ble_eq_true rfl) dL_law_314) (fun I2 h2 => ?_)
  exact jl_goto G 955 dL_law_317 (by decide) (hnext _ _ _ h2)
set_option maxRecDepth 100000 in
theorem lc_6 (G : GL l room_1 K m RL cL_law 4 H0 bS Ln xs w) (hW : WFK K) (ha : (kG K a).1 = 11) (ho : (kG K o).1 = 12) (hi1 : vp_in (nI i + 1) Ln) (hi2 : vp_in (nI i + 2) Ln) (hi3 : vp_in (nI i + 3) Ln) (hi4 : vp_in (nI i + 4) Ln) (hi5 : vp_in (nI i + 5) Ln) (I : MI) (J : MJ) (B : MR) (hLI : LI a o I) (hnext : ∀ (I : MI) (J : MJ) (B : MR), LI a o I → Jg K m 4 H0 w 955 [(0, .ref bS), (1, .ref a), (2, .ref o), (3, .int (nI i))] [] (I, J, B)) : Jg K m 4 H0 w 320 [(0, .ref bS), (1, .ref a), (2, .ref o), (3, .int (nI i))] [] (I, J, B) := by
  refine jl_aload_n G 1 1 dL_law_320 rfl rfl ?_
  refine jl_aload_n G 0 0 dL_law_321 rfl rfl ?_
  refine jl_iload_n G 3 3 dL_law_322 rfl rfl ?_
  refine jl_iconst G (1 : Int32) dL_law_323 (by decide) ?_
  refine jl_iadd G dL_law_324 ?_
  refine jl_sld G hi1 dL_law_325 ?_
  refine jl_aload_n G 0 0 dL_law_326 rfl rfl ?_
  refine jl_iload_n G 3 3 dL_law_327 rfl rfl ?_
  refine jl_iconst G (2 : Int32) dL_law_328 (by decide) ?_
  refine jl_iadd G dL_law_329 ?_
  refine jl_sld G hi2 dL_law_330 ?_
  refine jl_ci (rl_V G hW (ci := 10) (n := 2) (As := [.int (xs (ix (nI i + 1))), .int (xs (ix (nI i + 2)))]) (rest := []) (c_X9_room K hW l a (xs (ix (nI i + 1))) (xs (ix (nI i + 2))) ha I J B _ (st_room (xs (ix (nI i + 1))) (xs (ix (nI i + 2))) hLI)) ha (by decide) rfl ml_L_40 im_X9_room se_X9_room in_X9 co_X9_room rfl (by decide +kernel) rfl rfl (Nat.le_of_ble_eq_true rfl) (Nat.le_of_ble_eq_true rfl) rfl rfl (Nat.le_of_ble_eq_true rfl) dL_law_331) (fun v0 I1 h1 => ?_)
  refine jl_aload_n G 2 2 dL_law_334 rfl rfl ?_
  refine jl_aload_n G 0 0 dL_law_335 rfl rfl ?_
  refine jl_iload_n G 3 3 dL_law_336 rfl rfl ?_
  refine jl_iconst G (1 : Int32) dL_law_337 (by decide) ?_
  refine jl_iadd G dL_law_338 ?_
  refine jl_sld G hi1 dL_law_339 ?_
  refine jl_aload_n G 0 0 dL_law_340 rfl rfl ?_
  refine jl_iload_n G 3 3 dL_law_341 rfl rfl ?_
  refine jl_iconst G (2 : Int32) dL_law_342 (by decide) ?_
  refine jl_iadd G dL_law_343 ?_
  refine jl_sld G hi2 dL_law_344 ?_
  refine jl_ci (rl_V G hW (ci := 11) (n := 2) (As := [.int (xs (ix (nI i + 1))), .int (xs (ix (nI i + 2)))]) (rest := [.int v0]) (c_X10_room K hW l o (xs (ix (nI i + 1))) (xs (ix (nI i + 2))) ho I1 J B _ h1) ho (by decide) rfl ml_L_44 im_X10_room se_X10_room in_X10 co_X10_room rfl (by decide +kernel) rfl rfl (Nat.le_of_ble_eq_true rfl) (Nat.le_of_ble_eq_true rfl) rfl rfl (Nat.le_of_ble_eq_true rfl) dL_law_345) (fun v1 I2 h2 => ?_)
  exact jl_icmp_eq G 955 dL_law_348 (by decide) (fun _ => hnext _ _ _ h2.2) (fun c => absurd h2.1 c)
set_option maxRecDepth 100000 in
theorem lc_7 (G : GL l room_1 K m RL cL_law 4 H0 bS Ln xs w) (hW : WFK K) (ha : (kG K a).1 = 11) (ho : (kG K o).1 = 12) (hi1 : vp_in (nI i + 1) Ln) (hi2 : vp_in (nI i + 2) Ln) (hi3 : vp_in (nI i + 3) Ln) (hi4 : vp_in (nI i + 4) Ln) (hi5 : vp_in (nI i + 5) Ln) (I : MI) (J : MJ) (B : MR) (hLI : LI a o I) (hnext : ∀ (I : MI) (J : MJ) (B : MR), LI a o I → Jg K m 4 H0 w 955 [(0, .ref bS), (1, .ref a), (2, .ref o), (3, .int (nI i))] [] (I, J, B)) : Jg K m 4 H0 w 353 [(0, .ref bS), (1, .ref a), (2, .ref o), (3, .int (nI i))] [] (I, J, B) := by
  refine jl_aload_n G 1 1 dL_law_353 rfl rfl ?_
  refine jl_aload_n G 0 0 dL_law_354 rfl rfl ?_
  refine jl_iload_n G 3 3 dL_law_355 rfl rfl ?_
  refine jl_iconst G (1 : Int32) dL_law_356 (by decide) ?_
  refine jl_iadd G dL_law_357 ?_
  refine jl_sld G hi1 dL_law_358 ?_
  refine jl_ci (rl_V G hW (ci := 10) (n := 1) (As := [.int (xs (ix (nI i + 1)))]) (rest := []) (c_X9_count K hW l a (xs (ix (nI i + 1))) ha I J B _ (st_count (xs (ix (nI i + 1))) hLI)) ha (by decide) rfl ml_L_45 im_X9_count se_X9_count in_X9 co_X9_count rfl (by decide +kernel) rfl rfl (Nat.le_of_ble_eq_true rfl) (Nat.le_of_ble_eq_true rfl) rfl rfl (Nat.le_of_ble_eq_true rfl) dL_law_359) (fun v0 _ h1 => ?_)
  refine jl_aload_n G 2 2 dL_law_362 rfl rfl ?_
  refine jl_aload_n G 0 0 dL_law_363 rfl rfl ?_
  refine jl_iload_n G 3 3 dL_law_364 rfl rfl ?_
  refine jl_iconst G (1 : Int32) dL_law_365 (by decide) ?_
  refine jl_iadd G dL_law_366 ?_
  refine jl_sld G hi1 dL_law_367 ?_
  refine jl_ci (rl_V G hW (ci := 11) (n := 1) (As := [.int (xs (ix (nI i + 1)))]) (rest := [.int v0]) (c_X10_count K hW l o (xs (ix (nI i + 1))) ho I J B _ h1) ho (by decide) rfl ml_L_48 im_X10_count se_X10_count in_X10 co_X10_count rfl (by decide +kernel) rfl rfl (Nat.le_of_ble_eq_true rfl) (Nat.le_of_ble_eq_true rfl) rfl rfl (Nat.le_of_ble_eq_true rfl) dL_law_368) (fun v1 _ h2 => ?_)
  exact jl_icmp_eq G 955 dL_law_371 (by decide) (fun _ => hnext _ _ _ hLI) (fun c => absurd h2 c)
set_option maxRecDepth 100000 in
theorem lc_8 (G : GL l room_1 K m RL cL_law 4 H0 bS Ln xs w) (hW : WFK K) (ha : (kG K a).1 = 11) (ho : (kG K o).1 = 12) (hi1 : vp_in (nI i + 1) Ln) (hi2 : vp_in (nI i + 2) Ln) (hi3 : vp_in (nI i + 3) Ln) (hi4 : vp_in (nI i + 4) Ln) (hi5 : vp_in (nI i + 5) Ln) (I : MI) (J : MJ) (B : MR) (hLI : LI a o I) (hnext : ∀ (I : MI) (J : MJ) (B : MR), LI a o I → Jg K m 4 H0 w 955 [(0, .ref bS), (1, .ref a), (2, .ref o), (3, .int (nI i))] [] (I, J, B)) : Jg K m 4 H0 w 376 [(0, .ref bS), (1, .ref a), (2, .ref o), (3, .int (nI i))] [] (I, J, B) := by
  refine jl_aload_n G 1 1 dL_law_376 rfl rfl ?_
  refine jl_aload_n G 0 0 dL_law_377 rfl rfl ?_
  refine jl_iload_n G 3 3 dL_law_378 rfl rfl ?_
  refine jl_iconst G (1 : Int32) dL_law_379 (by decide) ?_
  refine jl_iadd G dL_law_380 ?_
  refine jl_sld G hi1 dL_law_381 ?_
  refine jl_aload_n G 0 0 dL_law_382 rfl rfl ?_
  refine jl_iload_n G 3 3 dL_law_383 rfl rfl ?_
  refine jl_iconst G (2 : Int32) dL_law_384 (by decide) ?_
  refine jl_iadd G dL_law_385 ?_
  refine jl_sld G hi2 dL_law_386 ?_
  refine jl_ci (rl_V G hW (ci := 10) (n := 2) (As := [.int (xs (ix (nI i + 1))), .int (xs (ix (nI i + 2)))]) (rest := []) (c_X9_side K hW l a (xs (ix (nI i + 1))) (xs (ix (nI i + 2))) ha I J B _ (st_side (xs (ix (nI i + 1))) (xs (ix (nI i + 2))) hLI)) ha (by decide) rfl ml_L_49 im_X9_side se_X9_side in_X9 co_X9_side rfl (by decide +kernel) rfl rfl (Nat.le_of_ble_eq_true rfl) (Nat.le_of_ble_eq_true rfl) rfl rfl (Nat.le_of_ble_eq_true rfl) dL_law_387) (fun v0 _ h1 => ?_)
  refine jl_aload_n G 2 2 dL_law_390 rfl rfl ?_
  refine jl_aload_n G 0 0 dL_law_391 rfl rfl ?_
  refine jl_iload_n G 3 3 dL_law_392 rfl rfl ?_
  refine jl_iconst G (1 : Int32) dL_law_393 (by decide) ?_
  refine jl_iadd G dL_law_394 ?_
  refine jl_sld G hi1 dL_law_395 ?_
  refine jl_aload_n G 0 0 dL_law_396 rfl rfl ?_
  refine jl_iload_n G 3 3 dL_law_397 rfl rfl ?_
  refine jl_iconst G (2 : Int32) dL_law_398 (by decide) ?_
  refine jl_iadd G dL_law_399 ?_
  refine jl_sld G hi2 dL_law_400 ?_
  refine jl_ci (rl_V G hW (ci := 11) (n := 2) (As := [.int (xs (ix (nI i + 1))), .int (xs (ix (nI i + 2)))]) (rest := [.int v0]) (c_X10_side K hW l o (xs (ix (nI i + 1))) (xs (ix (nI i + 2))) ho I J B _ h1) ho (by decide) rfl ml_L_53 im_X10_side se_X10_side in_X10 co_X10_side rfl (by decide +kernel) rfl rfl (Nat.le_of_ble_eq_true rfl) (Nat.le_of_ble_eq_true rfl) rfl rfl (Nat.le_of_ble_eq_true rfl) dL_law_401) (fun v1 _ h2 => ?_)
  exact jl_icmp_eq G 955 dL_law_404 (by decide) (fun _ => hnext _ _ _ hLI) (fun c => absurd h2 c)
set_option maxRecDepth 100000 in
theorem lc_9 (G : GL l room_1 K m RL cL_law 4 H0 bS Ln xs w) (hW : WFK K) (ha : (kG K a).1 = 11) (ho : (kG K o).1 = 12) (hi1 : vp_in (nI i + 1) Ln) (hi2 : vp_in (nI i + 2) Ln) (hi3 : vp_in (nI i + 3) Ln) (hi4 : vp_in (nI i + 4) Ln) (hi5 : vp_in (nI i + 5) Ln) (I : MI) (J : MJ) (B : MR) (hLI : LI a o I) (hnext : ∀ (I : MI) (J : MJ) (B : MR), LI a o I → Jg K m 4 H0 w 955 [(0, .ref bS), (1, .ref a), (2, .ref o), (3, .int (nI i))] [] (I, J, B)) : Jg K m 4 H0 w 409 [(0, .ref bS), (1, .ref a), (2, .ref o), (3, .int (nI i))] [] (I, J, B) := by
  refine jl_aload_n G 1 1 dL_law_409 rfl rfl ?_
  refine jl_aload_n G 0 0 dL_law_410 rfl rfl ?_
  refine jl_iload_n G 3 3 dL_law_411 rfl rfl ?_
  refine jl_iconst G (1 : Int32) dL_law_412 (by decide) ?_
  refine jl_iadd G dL_law_413 ?_
  refine jl_sld G hi1 dL_law_414 ?_
  refine jl_aload_n G 0 0 dL_law_415 rfl rfl ?_
  refine jl_iload_n G 3 3 dL_law_416 rfl rfl ?_
  refine jl_iconst G (2 : Int32) dL_law_417 (by decide) ?_
  refine jl_iadd G dL_law_418 ?_
  refine jl_sld G hi2 dL_law_419 ?_
  refine jl_ci (rl_V G hW (ci := 10) (n := 2) (As := [.int (xs (ix (nI i + 1))), .int (xs (ix (nI i + 2)))]) (rest := []) (c_X9_deeds K hW l a (xs (ix (nI i + 1))) (xs (ix (nI i + 2))) ha I J B _ (st_deeds (xs (ix (nI i + 1))) (xs (ix (nI i + 2))) hLI)) ha (by decide) rfl ml_L_54 im_X9_deeds se_X9_deeds in_X9 co_X9_deeds rfl (by decide +kernel) rfl rfl (Nat.le_of_ble_eq_true rfl) (Nat.le_of_ble_eq_true rfl) rfl rfl (Nat.le_of_ble_eq_true rfl) dL_law_420) (fun v0 _ h1 => ?_)
  refine jl_aload_n G 2 2 dL_law_423 rfl rfl ?_
  refine jl_aload_n G 0 0 dL_law_424 rfl rfl ?_
  refine jl_iload_n G 3 3 dL_law_425 rfl rfl ?_
  refine jl_iconst G (1 : Int32) dL_law_426 (by decide) ?_
  refine jl_iadd G dL_law_427 ?_
  refine jl_sld G hi1 dL_law_428 ?_
  refine jl_aload_n G 0 0 dL_law_429 rfl rfl ?_
  refine jl_iload_n G 3 3 dL_law_430 rfl rfl ?_
  refine jl_iconst G (2 : Int32) dL_law_431 (by decide) ?_
  refine jl_iadd G dL_law_432 ?_
  refine jl_sld G hi2 dL_law_433 ?_
  refine jl_ci (rl_V G hW (ci := 11) (n := 2) (As := [.int (xs (ix (nI i + 1))), .int (xs (ix (nI i + 2)))]) (rest := [.int v0]) (c_X10_deeds K hW l o (xs (ix (nI i + 1))) (xs (ix (nI i + 2))) ho I J B _ h1) ho (by decide) rfl ml_L_57 im_X10_deeds se_X10_deeds in_X10 co_X10_deeds rfl (by decide +kernel) rfl rfl (Nat.le_of_ble_eq_true rfl) (Nat.le_of_ble_eq_true rfl) rfl rfl (Nat.le_of_ble_eq_true rfl) dL_law_434) (fun v1 _ h2 => ?_)
  exact jl_icmp_eq G 955 dL_law_437 (by decide) (fun _ => hnext _ _ _ hLI) (fun c => absurd h2 c)
set_option maxRecDepth 100000 in
theorem lc_10 (G : GL l room_1 K m RL cL_law 4 H0 bS Ln xs w) (hW : WFK K) (ha : (kG K a).1 = 11) (ho : (kG K o).1 = 12) (hi1 : vp_in (nI i + 1) Ln) (hi2 : vp_in (nI i + 2) Ln) (hi3 : vp_in (nI i + 3) Ln) (hi4 : vp_in (nI i + 4) Ln) (hi5 : vp_in (nI i + 5) Ln) (I : MI) (J : MJ) (B : MR) (hLI : LI a o I) (hnext : ∀ (I : MI) (J : MJ) (B : MR), LI a o I → Jg K m 4 H0 w 955 [(0, .ref bS), (1, .ref a), (2, .ref o), (3, .int (nI i))] [] (I, J, B)) : Jg K m 4 H0 w 442 [(0, .ref bS), (1, .ref a), (2, .ref o), (3, .int (nI i))] [] (I, J, B) := by
  refine jl_aload_n G 1 1 dL_law_442 rfl rfl ?_
  refine jl_aload_n G 0 0 dL_law_443 rfl rfl ?_
  refine jl_iload_n G 3 3 dL_law_444 rfl rfl ?_
  refine jl_iconst G (1 : Int32) dL_law_445 (by decide) ?_
  refine jl_iadd G dL_law_446 ?_
  refine jl_sld G hi1 dL_law_447 ?_
  refine jl_aload_n G 0 0 dL_law_448 rfl rfl ?_
  refine jl_iload_n G 3 3 dL_law_449 rfl rfl ?_
  refine jl_iconst G (2 : Int32) dL_law_450 (by decide) ?_
  refine jl_iadd G dL_law_451 ?_
  refine jl_sld G hi2 dL_law_452 ?_
  refine jl_aload_n G 0 0 dL_law_453 rfl rfl ?_
  refine jl_iload_n G 3 3 dL_law_454 rfl rfl ?_
  refine jl_iconst G (3 : Int32) dL_law_455 (by decide) ?_
  refine jl_iadd G dL_law_456 ?_
  refine jl_sld G hi3 dL_law_457 ?_
  refine jl_aload_n G 0 0 dL_law_458 rfl rfl ?_
  refine jl_iload_n G 3 3 dL_law_459 rfl rfl ?_
  refine jl_iconst G (4 : Int32) dL_law_460 (by decide) ?_
  refine jl_iadd G dL_law_461 ?_
  refine jl_sld G hi4 dL_law_462 ?_
  refine jl_ci (rl_V G hW (ci := 10) (n := 4) (As := [.int (xs (ix (nI i + 1))), .int (xs (ix (nI i + 2))), .int (xs (ix (nI i + 3))), .int (xs (ix (nI i + 4)))]) (rest := []) (c_X9_text K hW l a (xs (ix (nI i + 1))) (xs (ix (nI i + 2))) (xs (ix (nI i + 3))) (xs (ix (nI i + 4))) ha I J B _ (st_text (xs (ix (nI i + 1))) (xs (ix (nI i + 2))) (xs (ix (nI i + 3))) (xs (ix (nI i + 4))) hLI)) ha (by decide) rfl ml_L_58 im_X9_text se_X9_text in_X9 co_X9_text rfl (by decide +kernel) rfl rfl (Nat.le_of_ble_eq_true rfl) (Nat.le_of_ble_eq_true rfl) rfl rfl (Nat.le_of_ble_eq_true rfl) dL_law_463) (fun v0 I1 h1 => ?_)
  refine jl_aload_n G 2 2 dL_law_466 rfl rfl ?_
  refine jl_aload_n G 0 0 dL_law_467 rfl rfl ?_
  refine jl_iload_n G 3 3 dL_law_468 rfl rfl ?_
  refine jl_iconst G (1 : Int32) dL_law_469 (by decide) ?_
  refine jl_iadd G dL_law_470 ?_
  refine jl_sld G hi1 dL_law_471 ?_
  refine jl_aload_n G 0 0 dL_law_472 rfl rfl ?_
  refine jl_iload_n G 3 3 dL_law_473 rfl rfl ?_
  refine jl_iconst G (2 : Int32) dL_law_474 (by decide) ?_
  refine jl_iadd G dL_law_475 ?_
  refine jl_sld G hi2 dL_law_476 ?_
  refine jl_aload_n G 0 0 dL_law_477 rfl rfl ?_
  refine jl_iload_n G 3 3 dL_law_478 rfl rfl ?_
  refine jl_iconst G (3 : Int32) dL_law_479 (by decide) ?_
  refine jl_iadd G dL_law_480 ?_
  refine jl_sld G hi3 dL_law_481 ?_
  refine jl_aload_n G 0 0 dL_law_482 rfl rfl ?_
  refine jl_iload_n G 3 3 dL_law_483 rfl rfl ?_
  refine jl_iconst G (4 : Int32) dL_law_484 (by decide) ?_
  refine jl_iadd G dL_law_485 ?_
  refine jl_sld G hi4 dL_law_486 ?_
  refine jl_ci (rl_V G hW (ci := 11) (n := 4) (As := [.int (xs (ix (nI i + 1))), .int (xs (ix (nI i + 2))), .int (xs (ix (nI i + 3))), .int (xs (ix (nI i + 4)))]) (rest := [.int v0]) (c_X10_text K hW l o (xs (ix (nI i + 1))) (xs (ix (nI i + 2))) (xs (ix (nI i + 3))) (xs (ix (nI i + 4))) ho I1 J B _ h1) ho (by decide) rfl ml_L_62 im_X10_text se_X10_text in_X10 co_X10_text rfl (by decide +kernel) rfl rfl (Nat.le_of_ble_eq_true rfl) (Nat.le_of_ble_eq_true rfl) rfl rfl (Nat.le_of_ble_eq_true rfl) dL_law_487) (fun v1 I2 h2 => ?_)
  exact jl_icmp_eq G 955 dL_law_490 (by decide) (fun _ => hnext _ _ _ h2.2) (fun c => absurd h2.1 c)
set_option maxRecDepth 100000 in
theorem lc_11 (G : GL l room_1 K m RL cL_law 4 H0 bS Ln xs w) (hW : WFK K) (ha : (kG K a).1 = 11) (ho : (kG K o).1 = 12) (hi1 : vp_in (nI i + 1) Ln) (hi2 : vp_in (nI i + 2) Ln) (hi3 : vp_in (nI i + 3) Ln) (hi4 : vp_in (nI i + 4) Ln) (hi5 : vp_in (nI i + 5) Ln) (I : MI) (J : MJ) (B : MR) (hLI : LI a o I) (hnext : ∀ (I : MI) (J : MJ) (B : MR), LI a o I → Jg K m 4 H0 w 955 [(0, .ref bS), (1, .ref a), (2, .ref o), (3, .int (nI i))] [] (I, J, B)) : Jg K m 4 H0 w 495 [(0, .ref bS), (1, .ref a), (2, .ref o), (3, .int (nI i))] [] (I, J, B) := by
  refine jl_aload_n G 1 1 dL_law_495 rfl rfl ?_
  refine jl_aload_n G 0 0 dL_law_496 rfl rfl ?_
  refine jl_iload_n G 3 3 dL_law_497 rfl rfl ?_
  refine jl_iconst G (1 : Int32) dL_law_498 (by decide) ?_
  refine jl_iadd G dL_law_499 ?_
  refine jl_sld G hi1 dL_law_500 ?_
  refine jl_aload_n G 0 0 dL_law_501 rfl rfl ?_
  refine jl_iload_n G 3 3 dL_law_502 rfl rfl ?_
  refine jl_iconst G (2 : Int32) dL_law_503 (by decide) ?_
  refine jl_iadd G dL_law_504 ?_
  refine jl_sld G hi2 dL_law_505 ?_
  refine jl_aload_n G 0 0 dL_law_506 rfl rfl ?_
  refine jl_iload_n G 3 3 dL_law_507 rfl rfl ?_
  refine jl_iconst G (3 : Int32) dL_law_508 (by decide) ?_
  refine jl_iadd G dL_law_509 ?_
  refine jl_sld G hi3 dL_law_510 ?_
  refine jl_ci (rl_V G hW (ci := 10) (n := 3) (As := [.int (xs (ix (nI i + 1))), .int (xs (ix (nI i + 2))), .int (xs (ix (nI i + 3)))]) (rest := []) (c_X9_did K hW l a (xs (ix (nI i + 1))) (xs (ix (nI i + 2))) (xs (ix (nI i + 3))) ha I J B _ (st_did (xs (ix (nI i + 1))) (xs (ix (nI i + 2))) (xs (ix (nI i + 3))) hLI)) ha (by decide) rfl ml_L_63 im_X9_did se_X9_did in_X9 co_X9_did rfl (by decide +kernel) rfl rfl (Nat.le_of_ble_eq_true rfl) (Nat.le_of_ble_eq_true rfl) rfl rfl (Nat.le_of_ble_eq_true rfl) dL_law_511) (fun v0 _ h1 => ?_)
  refine jl_aload_n G 2 2 dL_law_514 rfl rfl ?_
  refine jl_aload_n G 0 0 dL_law_515 rfl rfl ?_
  refine jl_iload_n G 3 3 dL_law_516 rfl rfl ?_
  refine jl_iconst G (1 : Int32) dL_law_517 (by decide) ?_
  refine jl_iadd G dL_law_518 ?_
  refine jl_sld G hi1 dL_law_519 ?_
  refine jl_aload_n G 0 0 dL_law_520 rfl rfl ?_
  refine jl_iload_n G 3 3 dL_law_521 rfl rfl ?_
  refine jl_iconst G (2 : Int32) dL_law_522 (by decide) ?_
  refine jl_iadd G dL_law_523 ?_
  refine jl_sld G hi2 dL_law_524 ?_
  refine jl_aload_n G 0 0 dL_law_525 rfl rfl ?_
  refine jl_iload_n G 3 3 dL_law_526 rfl rfl ?_
  refine jl_iconst G (3 : Int32) dL_law_527 (by decide) ?_
  refine jl_iadd G dL_law_528 ?_
  refine jl_sld G hi3 dL_law_529 ?_
  refine jl_ci (rl_V G hW (ci := 11) (n := 3) (As := [.int (xs (ix (nI i + 1))), .int (xs (ix (nI i + 2))), .int (xs (ix (nI i + 3)))]) (rest := [.int v0]) (c_X10_did K hW l o (xs (ix (nI i + 1))) (xs (ix (nI i + 2))) (xs (ix (nI i + 3))) ho I J B _ h1) ho (by decide) rfl ml_L_67 im_X10_did se_X10_did in_X10 co_X10_did rfl (by decide +kernel) rfl rfl (Nat.le_of_ble_eq_true rfl) (Nat.le_of_ble_eq_true rfl) rfl rfl (Nat.le_of_ble_eq_true rfl) dL_law_530) (fun v1 _ h2 => ?_)
  exact jl_icmp_eq G 955 dL_law_533 (by decide) (fun _ => hnext _ _ _ hLI) (fun c => absurd h2 c)
set_option maxRecDepth 100000 in
theorem lc_12 (G : GL l room_1 K m RL cL_law 4 H0 bS Ln xs w) (hW : WFK K) (ha : (kG K a).1 = 11) (ho : (kG K o).1 = 12) (hi1 : vp_in (nI i + 1) Ln) (hi2 : vp_in (nI i + 2) Ln) (hi3 : vp_in (nI i + 3) Ln) (hi4 : vp_in (nI i + 4) Ln) (hi5 : vp_in (nI i + 5) Ln) (I : MI) (J : MJ) (B : MR) (hLI : LI a o I) (hnext : ∀ (I : MI) (J : MJ) (B : MR), LI a o I → Jg K m 4 H0 w 955 [(0, .ref bS), (1, .ref a), (2, .ref o), (3, .int (nI i))] [] (I, J, B)) : Jg K m 4 H0 w 538 [(0, .ref bS), (1, .ref a), (2, .ref o), (3, .int (nI i))] [] (I, J, B) := by
  refine jl_aload_n G 1 1 dL_law_538 rfl rfl ?_
  refine jl_aload_n G 0 0 dL_law_539 rfl rfl ?_
  refine jl_iload_n G 3 3 dL_law_540 rfl rfl ?_
  refine jl_iconst G (1 : Int32) dL_law_541 (by decide) ?_
  refine jl_iadd G dL_law_542 ?_
  refine jl_sld G hi1 dL_law_543 ?_
  refine jl_aload_n G 0 0 dL_law_544 rfl rfl ?_
  refine jl_iload_n G 3 3 dL_law_545 rfl rfl ?_
  refine jl_iconst G (2 : Int32) dL_law_546 (by decide) ?_
  refine jl_iadd G dL_law_547 ?_
  refine jl_sld G hi2 dL_law_548 ?_
  refine jl_ci (rl_V G hW (ci := 10) (n := 2) (As := [.int (xs (ix (nI i + 1))), .int (xs (ix (nI i + 2)))]) (rest := []) (c_X9_queue K hW l a (xs (ix (nI i + 1))) (xs (ix (nI i + 2))) ha I J B _ (st_queue (xs (ix (nI i + 1))) (xs (ix (nI i + 2))) hLI)) ha (by decide) rfl ml_L_68 im_X9_queue se_X9_queue in_X9 co_X9_queue rfl (by decide +kernel) rfl rfl (Nat.le_of_ble_eq_true rfl) (Nat.le_of_ble_eq_true rfl) rfl rfl (Nat.le_of_ble_eq_true rfl) dL_law_549) (fun v0 _ h1 => ?_)
  refine jl_aload_n G 2 2 dL_law_552 rfl rfl ?_
  refine jl_aload_n G 0 0 dL_law_553 rfl rfl ?_
  refine jl_iload_n G 3 3 dL_law_554 rfl rfl ?_
  refine jl_iconst G (1 : Int32) dL_law_555 (by decide) ?_
  refine jl_iadd G dL_law_556 ?_
  refine jl_sld G hi1 dL_law_557 ?_
  refine jl_aload_n G 0 0 dL_law_558 rfl rfl ?_
  refine jl_iload_n G 3 3 dL_law_559 rfl rfl ?_
  refine jl_iconst G (2 : Int32) dL_law_560 (by decide) ?_
  refine jl_iadd G dL_law_561 ?_
  refine jl_sld G hi2 dL_law_562 ?_
  refine jl_ci (rl_V G hW (ci := 11) (n := 2) (As := [.int (xs (ix (nI i + 1))), .int (xs (ix (nI i + 2)))]) (rest := [.int v0]) (c_X10_queue K hW l o (xs (ix (nI i + 1))) (xs (ix (nI i + 2))) ho I J B _ h1) ho (by decide) rfl ml_L_71 im_X10_queue se_X10_queue in_X10 co_X10_queue rfl (by decide +kernel) rfl rfl (Nat.le_of_ble_eq_true rfl) (Nat.le_of_ble_eq_true rfl) rfl rfl (Nat.le_of_ble_eq_true rfl) dL_law_563) (fun v1 _ h2 => ?_)
  exact jl_icmp_eq G 955 dL_law_566 (by decide) (fun _ => hnext _ _ _ hLI) (fun c => absurd h2 c)
set_option maxRecDepth 100000 in
theorem lc_13 (G : GL l room_1 K m RL cL_law 4 H0 bS Ln xs w) (hW : WFK K) (ha : (kG K a).1 = 11) (ho : (kG K o).1 = 12) (hi1 : vp_in (nI i + 1) Ln) (hi2 : vp_in (nI i + 2) Ln) (hi3 : vp_in (nI i + 3) Ln) (hi4 : vp_in (nI i + 4) Ln) (hi5 : vp_in (nI i + 5) Ln) (I : MI) (J : MJ) (B : MR) (hLI : LI a o I) (hnext : ∀ (I : MI) (J : MJ) (B : MR), LI a o I → Jg K m 4 H0 w 955 [(0, .ref bS), (1, .ref a), (2, .ref o), (3, .int (nI i))] [] (I, J, B)) : Jg K m 4 H0 w 571 [(0, .ref bS), (1, .ref a), (2, .ref o), (3, .int (nI i))] [] (I, J, B) := by
  refine jl_aload_n G 1 1 dL_law_571 rfl rfl ?_
  refine jl_aload_n G 0 0 dL_law_572 rfl rfl ?_
  refine jl_iload_n G 3 3 dL_law_573 rfl rfl ?_
  refine jl_iconst G (1 : Int32) dL_law_574 (by decide) ?_
  refine jl_iadd G dL_law_575 ?_
  refine jl_sld G hi1 dL_law_576 ?_
  refine jl_ci (rl_V G hW (ci := 10) (n := 1) (As := [.int (xs (ix (nI i + 1)))]) (rest := []) (c_X9_roomOf K hW l a (xs (ix (nI i + 1))) ha I J B _ (st_roomOf (xs (ix (nI i + 1))) hLI)) ha (by decide) rfl ml_L_72 im_X9_roomOf se_X9_roomOf in_X9 co_X9_roomOf rfl (by decide +kernel) rfl rfl (Nat.le_of_ble_eq_true rfl) (Nat.le_of_ble_eq_true rfl) rfl rfl (Nat.le_of_ble_eq_true rfl) dL_law_577) (fun v0 _ h1 => ?_)
  refine jl_aload_n G 2 2 dL_law_580 rfl rfl ?_
  refine jl_aload_n G 0 0 dL_law_581 rfl rfl ?_
  refine jl_iload_n G 3 3 dL_law_582 rfl rfl ?_
  refine jl_iconst G (1 : Int32) dL_law_583 (by decide) ?_
  refine jl_iadd G dL_law_584 ?_
  refine jl_sld G hi1 dL_law_585 ?_
  refine jl_ci (rl_V G hW (ci := 11) (n := 1) (As := [.int (xs (ix (nI i + 1)))]) (rest := [.int v0]) (c_X10_roomOf K hW l o (xs (ix (nI i + 1))) ho I J B _ h1) ho (by decide) rfl ml_L_75 im_X10_roomOf se_X10_roomOf in_X10 co_X10_roomOf rfl (by decide +kernel) rfl rfl (Nat.le_of_ble_eq_true rfl) (Nat.le_of_ble_eq_true rfl) rfl rfl (Nat.le_of_ble_eq_true rfl) dL_law_586) (fun v1 _ h2 => ?_)
  exact jl_icmp_eq G 955 dL_law_589 (by decide) (fun _ => hnext _ _ _ hLI) (fun c => absurd h2 c)
set_option maxRecDepth 100000 in
theorem lc_14 (G : GL l room_1 K m RL cL_law 4 H0 bS Ln xs w) (hW : WFK K) (ha : (kG K a).1 = 11) (ho : (kG K o).1 = 12) (hi1 : vp_in (nI i + 1) Ln) (hi2 : vp_in (nI i + 2) Ln) (hi3 : vp_in (nI i + 3) Ln) (hi4 : vp_in (nI i + 4) Ln) (hi5 : vp_in (nI i + 5) Ln) (I : MI) (J : MJ) (B : MR) (hLI : LI a o I) (hnext : ∀ (I : MI) (J : MJ) (B : MR), LI a o I → Jg K m 4 H0 w 955 [(0, .ref bS), (1, .ref a), (2, .ref o), (3, .int (nI i))] [] (I, J, B)) : Jg K m 4 H0 w 594 [(0, .ref bS), (1, .ref a), (2, .ref o), (3, .int (nI i))] [] (I, J, B) := by
  refine jl_aload_n G 1 1 dL_law_594 rfl rfl ?_
  refine jl_aload_n G 0 0 dL_law_595 rfl rfl ?_
  refine jl_iload_n G 3 3 dL_law_596 rfl rfl ?_
  refine jl_iconst G (1 : Int32) dL_law_597 (by decide) ?_
  refine jl_iadd G dL_law_598 ?_
  refine jl_sld G hi1 dL_law_599 ?_
  refine jl_ci (rl_V G hW (ci := 10) (n := 1) (As := [.int (xs (ix (nI i + 1)))]) (rest := []) (c_X9_cell K hW l a (xs (ix (nI i + 1))) ha I J B _ (st_cell (xs (ix (nI i + 1))) hLI)) ha (by decide) rfl ml_L_76 im_X9_cell se_X9_cell in_X9 co_X9_cell rfl (by decide +kernel) rfl rfl (Nat.le_of_ble_eq_true rfl) (Nat.le_of_ble_eq_true rfl) rfl rfl (Nat.le_of_ble_eq_true rfl) dL_law_600) (fun v0 _ h1 => ?_)
  refine jl_aload_n G 2 2 dL_law_603 rfl rfl ?_
  refine jl_aload_n G 0 0 dL_law_604 rfl rfl ?_
  refine jl_iload_n G 3 3 dL_law_605 rfl rfl ?_
  refine jl_iconst G (1 : Int32) dL_law_606 (by decide) ?_
  refine jl_iadd G dL_law_607 ?_
  refine jl_sld G hi1 dL_law_608 ?_
  refine jl_ci (rl_V G hW (ci := 11) (n := 1) (As := [.int (xs (ix (nI i + 1)))]) (rest := [.int v0]) (c_X10_cell K hW l o (xs (ix (nI i + 1))) ho I J B _ h1) ho (by decide) rfl ml_L_79 im_X10_cell se_X10_cell in_X10 co_X10_cell rfl (by decide +kernel) rfl rfl (Nat.le_of_ble_eq_true rfl) (Nat.le_of_ble_eq_true rfl) rfl rfl (Nat.le_of_ble_eq_true rfl) dL_law_609) (fun v1 _ h2 => ?_)
  exact jl_icmp_eq G 955 dL_law_612 (by decide) (fun _ => hnext _ _ _ hLI) (fun c => absurd h2 c)
set_option maxRecDepth 100000 in
theorem lc_15 (G : GL l room_1 K m RL cL_law 4 H0 bS Ln xs w) (hW : WFK K) (ha : (kG K a).1 = 11) (ho : (kG K o).1 = 12) (hi1 : vp_in (nI i + 1) Ln) (hi2 : vp_in (nI i + 2) Ln) (hi3 : vp_in (nI i + 3) Ln) (hi4 : vp_in (nI i + 4) Ln) (hi5 : vp_in (nI i + 5) Ln) (I : MI) (J : MJ) (B : MR) (hLI : LI a o I) (hnext : ∀ (I : MI) (J : MJ) (B : MR), LI a o I → Jg K m 4 H0 w 955 [(0, .ref bS), (1, .ref a), (2, .ref o), (3, .int (nI i))] [] (I, J, B)) : Jg K m 4 H0 w 617 [(0, .ref bS), (1, .ref a), (2, .ref o), (3, .int (nI i))] [] (I, J, B) := by
  refine jl_aload_n G 1 1 dL_law_617 rfl rfl ?_
  refine jl_aload_n G 0 0 dL_law_618 rfl rfl ?_
  refine jl_iload_n G 3 3 dL_law_619 rfl rfl ?_
  refine jl_iconst G (1 : Int32) dL_law_620 (by decide) ?_
  refine jl_iadd G dL_law_621 ?_
  refine jl_sld G hi1 dL_law_622 ?_
  refine jl_ci (rl_V G hW (ci := 10) (n := 1) (As := [.int (xs (ix (nI i + 1)))]) (rest := []) (c_X9_register K hW l a (xs (ix (nI i + 1))) ha I J B _ (st_register (xs (ix (nI i + 1))) hLI)) ha (by decide) rfl ml_L_80 im_X9_register se_X9_register in_X9 co_X9_register rfl (by decide +kernel) rfl rfl (Nat.le_of_ble_eq_true rfl) (Nat.le_of_ble_eq_true rfl) rfl rfl (Nat.le_of_ble_eq_true rfl) dL_law_623) (fun v0 _ h1 => ?_)
  refine jl_aload_n G 2 2 dL_law_626 rfl rfl ?_
  refine jl_aload_n G 0 0 dL_law_627 rfl rfl ?_
  refine jl_iload_n G 3 3 dL_law_628 rfl rfl ?_
  refine jl_iconst G (1 : Int32) dL_law_629 (by decide) ?_
  refine jl_iadd G dL_law_630 ?_
  refine jl_sld G hi1 dL_law_631 ?_
  refine jl_ci (rl_V G hW (ci := 11) (n := 1) (As := [.int (xs (ix (nI i + 1)))]) (rest := [.int v0]) (c_X10_register K hW l o (xs (ix (nI i + 1))) ho I J B _ h1) ho (by decide) rfl ml_L_83 im_X10_register se_X10_register in_X10 co_X10_register rfl (by decide +kernel) rfl rfl (Nat.le_of_ble_eq_true rfl) (Nat.le_of_ble_eq_true rfl) rfl rfl (Nat.le_of_ble_eq_true rfl) dL_law_632) (fun v1 _ h2 => ?_)
  exact jl_icmp_eq G 955 dL_law_635 (by decide) (fun _ => hnext _ _ _ hLI) (fun c => absurd h2 c)
set_option maxRecDepth 100000 in
theorem lc_16 (G : GL l room_1 K m RL cL_law 4 H0 bS Ln xs w) (hW : WFK K) (ha : (kG K a).1 = 11) (ho : (kG K o).1 = 12) (hi1 : vp_in (nI i + 1) Ln) (hi2 : vp_in (nI i + 2) Ln) (hi3 : vp_in (nI i + 3) Ln) (hi4 : vp_in (nI i + 4) Ln) (hi5 : vp_in (nI i + 5) Ln) (I : MI) (J : MJ) (B : MR) (hLI : LI a o I) (hnext : ∀ (I : MI) (J : MJ) (B : MR), LI a o I → Jg K m 4 H0 w 955 [(0, .ref bS), (1, .ref a), (2, .ref o), (3, .int (nI i))] [] (I, J, B)) : Jg K m 4 H0 w 640 [(0, .ref bS), (1, .ref a), (2, .ref o), (3, .int (nI i))] [] (I, J, B) := by
  refine jl_aload_n G 1 1 dL_law_640 rfl rfl ?_
  refine jl_aload_n G 0 0 dL_law_641 rfl rfl ?_
  refine jl_iload_n G 3 3 dL_law_642 rfl rfl ?_
  refine jl_iconst G (1 : Int32) dL_law_643 (by decide) ?_
  refine jl_iadd G dL_law_644 ?_
  refine jl_sld G hi1 dL_law_645 ?_
  refine jl_aload_n G 0 0 dL_law_646 rfl rfl ?_
  refine jl_iload_n G 3 3 dL_law_647 rfl rfl ?_
  refine jl_iconst G (2 : Int32) dL_law_648 (by decide) ?_
  refine jl_iadd G dL_law_649 ?_
  refine jl_sld G hi2 dL_law_650 ?_
  refine jl_ci (rl_V G hW (ci := 10) (n := 2) (As := [.int (xs (ix (nI i + 1))), .int (xs (ix (nI i + 2)))]) (rest := []) (c_X9_alone K hW l a (xs (ix (nI i + 1))) (xs (ix (nI i + 2))) ha I J B _ (st_alone (xs (ix (nI i + 1))) (xs (ix (nI i + 2))) hLI)) ha (by decide) rfl ml_L_84 im_X9_alone se_X9_alone in_X9 co_X9_alone rfl (by decide +kernel) rfl rfl (Nat.le_of_ble_eq_true rfl) (Nat.le_of_ble_eq_true rfl) rfl rfl (Nat.le_of_ble_eq_true rfl) dL_law_651) (fun v0 I1 h1 => ?_)
  refine jl_aload_n G 2 2 dL_law_654 rfl rfl ?_
  refine jl_aload_n G 0 0 dL_law_655 rfl rfl ?_
  refine jl_iload_n G 3 3 dL_law_656 rfl rfl ?_
  refine jl_iconst G (1 : Int32) dL_law_657 (by decide) ?_
  refine jl_iadd G dL_law_658 ?_
  refine jl_sld G hi1 dL_law_659 ?_
  refine jl_aload_n G 0 0 dL_law_660 rfl rfl ?_
  refine jl_iload_n G 3 3 dL_law_661 rfl rfl ?_
  refine jl_iconst G (2 : Int32) dL_law_662 (by decide) ?_
  refine jl_iadd G dL_law_663 ?_
  refine jl_sld G hi2 dL_law_664 ?_
  refine jl_ci (rl_V G hW (ci := 11) (n := 2) (As := [.int (xs (ix (nI i + 1))), .int (xs (ix (nI i + 2)))]) (rest := [.int v0]) (c_X10_alone K hW l o (xs (ix (nI i + 1))) (xs (ix (nI i + 2))) ho I1 J B _ h1) ho (by decide) rfl ml_L_87 im_X10_alone se_X10_alone in_X10 co_X10_alone rfl (by decide +kernel) rfl rfl (Nat.le_of_ble_eq_true rfl) (Nat.le_of_ble_eq_true rfl) rfl rfl (Nat.le_of_ble_eq_true rfl) dL_law_665) (fun v1 I2 h2 => ?_)
  exact jl_icmp_eq G 955 dL_law_668 (by decide) (fun _ => hnext _ _ _ h2.2) (fun c => absurd h2.1 c)
set_option maxRecDepth 100000 in
theorem lc_17 (G : GL l room_1 K m RL cL_law 4 H0 bS Ln xs w) (hW : WFK K) (ha : (kG K a).1 = 11) (ho : (kG K o).1 = 12) (hi1 : vp_in (nI i + 1) Ln) (hi2 : vp_in (nI i + 2) Ln) (hi3 : vp_in (nI i + 3) Ln) (hi4 : vp_in (nI i + 4) Ln) (hi5 : vp_in (nI i + 5) Ln) (I : MI) (J : MJ) (B : MR) (hLI : LI a o I) (hnext : ∀ (I : MI) (J : MJ) (B : MR), LI a o I → Jg K m 4 H0 w 955 [(0, .ref bS), (1, .ref a), (2, .ref o), (3, .int (nI i))] [] (I, J, B)) : Jg K m 4 H0 w 673 [(0, .ref bS), (1, .ref a), (2, .ref o), (3, .int (nI i))] [] (I, J, B) := by
  refine jl_aload_n G 1 1 dL_law_673 rfl rfl ?_
  refine jl_aload_n G 0 0 dL_law_674 rfl rfl ?_
  refine jl_iload_n G 3 3 dL_law_675 rfl rfl ?_
  refine jl_iconst G (1 : Int32) dL_law_676 (by decide) ?_
  refine jl_iadd G dL_law_677 ?_
  refine jl_sld G hi1 dL_law_678 ?_
  refine jl_aload_n G 0 0 dL_law_679 rfl rfl ?_
  refine jl_iload_n G 3 3 dL_law_680 rfl rfl ?_
  refine jl_iconst G (2 : Int32) dL_law_681 (by decide) ?_
  refine jl_iadd G dL_law_682 ?_
  refine jl_sld G hi2 dL_law_683 ?_
  refine jl_ci (rl_V G hW (ci := 10) (n := 2) (As := [.int (xs (ix (nI i + 1))), .int (xs (ix (nI i + 2)))]) (rest := []) (c_X9_ahead K hW l a (xs (ix (nI i + 1))) (xs (ix (nI i + 2))) ha I J B _ (st_ahead (xs (ix (nI i + 1))) (xs (ix (nI i + 2))) hLI)) ha (by decide) rfl ml_L_88 im_X9_ahead se_X9_ahead in_X9 co_X9_ahead rfl (by decide +kernel) rfl rfl (Nat.le_of_ble_eq_true rfl) (Nat.le_of_ble_eq_true rfl) rfl rfl (Nat.le_of_ble_eq_true rfl) dL_law_684) (fun v0 I1 h1 => ?_)
  refine jl_aload_n G 2 2 dL_law_687 rfl rfl ?_
  refine jl_aload_n G 0 0 dL_law_688 rfl rfl ?_
  refine jl_iload_n G 3 3 dL_law_689 rfl rfl ?_
  refine jl_iconst G (1 : Int32) dL_law_690 (by decide) ?_
  refine jl_iadd G dL_law_691 ?_
  refine jl_sld G hi1 dL_law_692 ?_
  refine jl_aload_n G 0 0 dL_law_693 rfl rfl ?_
  refine jl_iload_n G 3 3 dL_law_694 rfl rfl ?_
  refine jl_iconst G (2 : Int32) dL_law_695 (by decide) ?_
  refine jl_iadd G dL_law_696 ?_
  refine jl_sld G hi2 dL_law_697 ?_
  refine jl_ci (rl_V G hW (ci := 11) (n := 2) (As := [.int (xs (ix (nI i + 1))), .int (xs (ix (nI i + 2)))]) (rest := [.int v0]) (c_X10_ahead K hW l o (xs (ix (nI i + 1))) (xs (ix (nI i + 2))) ho I1 J B _ h1) ho (by decide) rfl ml_L_91 im_X10_ahead se_X10_ahead in_X10 co_X10_ahead rfl (by decide +kernel) rfl rfl (Nat.le_of_ble_eq_true rfl) (Nat.le_of_ble_eq_true rfl) rfl rfl (Nat.le_of_ble_eq_true rfl) dL_law_698) (fun v1 I2 h2 => ?_)
  exact jl_icmp_eq G 955 dL_law_701 (by decide) (fun _ => hnext _ _ _ h2.2) (fun c => absurd h2.1 c)
set_option maxRecDepth 100000 in
theorem lc_18 (G : GL l room_1 K m RL cL_law 4 H0 bS Ln xs w) (hW : WFK K) (ha : (kG K a).1 = 11) (ho : (kG K o).1 = 12) (hi1 : vp_in (nI i + 1) Ln) (hi2 : vp_in (nI i + 2) Ln) (hi3 : vp_in (nI i + 3) Ln) (hi4 : vp_in (nI i + 4) Ln) (hi5 : vp_in (nI i + 5) Ln) (I : MI) (J : MJ) (B : MR) (hLI : LI a o I) (hnext : ∀ (I : MI) (J : MJ) (B : MR), LI a o I → Jg K m 4 H0 w 955 [(0, .ref bS), (1, .ref a), (2, .ref o), (3, .int (nI i))] [] (I, J, B)) : Jg K m 4 H0 w 706 [(0, .ref bS), (1, .ref a), (2, .ref o), (3, .int (nI i))] [] (I, J, B) := by
  refine jl_aload_n G 1 1 dL_law_706 rfl rfl ?_
  refine jl_ci (rl_V G hW (ci := 10) (n := 0) (As := []) (rest := []) (c_X9_time K hW l a ha I J B _ (st_time hLI)) ha (by decide) rfl ml_L_92 im_X9_time se_X9_time in_X9 co_X9_time rfl (by decide +kernel) rfl rfl (Nat.le_of_ble_eq_true rfl) (Nat.le_of_ble_eq_true rfl) rfl rfl (Nat.le_of_ble_eq_true rfl) dL_law_707) (fun v0 I1 h1 => ?_)
  refine jl_aload_n G 2 2 dL_law_710 rfl rfl ?_
  refine jl_ci (rl_V G hW (ci := 11) (n := 0) (As := []) (rest := [.int v0]) (c_X10_time K hW l o ho I1 J B _ h1) ho (by decide) rfl ml_L_95 im_X10_time se_X10_time in_X10 co_X10_time rfl (by decide +kernel) rfl rfl (Nat.le_of_ble_eq_true rfl) (Nat.le_of_ble_eq_true rfl) rfl rfl (Nat.le_of_ble_eq_true rfl) dL_law_711) (fun v1 I2 h2 => ?_)
  exact jl_icmp_eq G 955 dL_law_714 (by decide) (fun _ => hnext _ _ _ h2.2) (fun c => absurd h2.1 c)
set_option maxRecDepth 100000 in
theorem lc_19 (G : GL l room_1 K m RL cL_law 4 H0 bS Ln xs w) (hW : WFK K) (ha : (kG K a).1 = 11) (ho : (kG K o).1 = 12) (hi1 : vp_in (nI i + 1) Ln) (hi2 : vp_in (nI i + 2) Ln) (hi3 : vp_in (nI i + 3) Ln) (hi4 : vp_in (nI i + 4) Ln) (hi5 : vp_in (nI i + 5) Ln) (I : MI) (J : MJ) (B : MR) (hLI : LI a o I) (hnext : ∀ (I : MI) (J : MJ) (B : MR), LI a o I → Jg K m 4 H0 w 955 [(0, .ref bS), (1, .ref a), (2, .ref o), (3, .int (nI i))] [] (I, J, B)) : Jg K m 4 H0 w 719 [(0, .ref bS), (1, .ref a), (2, .ref o), (3, .int (nI i))] [] (I, J, B) := by
  refine jl_aload_n G 1 1 dL_law_719 rfl rfl ?_
  refine jl_aload_n G 0 0 dL_law_720 rfl rfl ?_
  refine jl_iload_n G 3 3 dL_law_721 rfl rfl ?_
  refine jl_iconst G (1 : Int32) dL_law_722 (by decide) ?_
  refine jl_iadd G dL_law_723 ?_
  refine jl_sld G hi1 dL_law_724 ?_
  refine jl_ci (rl_V G hW (ci := 10) (n := 1) (As := [.int (xs (ix (nI i + 1)))]) (rest := []) (c_X9_late K hW l a (xs (ix (nI i + 1))) ha I J B _ (st_late (xs (ix (nI i + 1))) hLI)) ha (by decide) rfl ml_L_96 im_X9_late se_X9_late in_X9 co_X9_late rfl (by decide +kernel) rfl rfl (Nat.le_of_ble_eq_true rfl) (Nat.le_of_ble_eq_true rfl) rfl rfl (Nat.le_of_ble_eq_true rfl) dL_law_725) (fun v0 I1 h1 => ?_)
  refine jl_aload_n G 2 2 dL_law_728 rfl rfl ?_
  refine jl_aload_n G 0 0 dL_law_729 rfl rfl ?_
  refine jl_iload_n G 3 3 dL_law_730 rfl rfl ?_
  refine jl_iconst G (1 : Int32) dL_law_731 (by decide) ?_
  refine jl_iadd G dL_law_732 ?_
  refine jl_sld G hi1 dL_law_733 ?_
  refine jl_ci (rl_V G hW (ci := 11) (n := 1) (As := [.int (xs (ix (nI i + 1)))]) (rest := [.int v0]) (c_X10_late K hW l o (xs (ix (nI i + 1))) ho I1 J B _ h1) ho (by decide) rfl ml_L_99 im_X10_late se_X10_late in_X10 co_X10_late rfl (by decide +kernel) rfl rfl (Nat.le_of_ble_eq_true rfl) (Nat.le_of_ble_eq_true rfl) rfl rfl (Nat.le_of_ble_eq_true rfl) dL_law_734) (fun v1 I2 h2 => ?_)
  exact jl_icmp_eq G 955 dL_law_737 (by decide) (fun _ => hnext _ _ _ h2.2) (fun c => absurd h2.1 c)
set_option maxRecDepth 100000 in
theorem lc_20 (G : GL l room_1 K m RL cL_law 4 H0 bS Ln xs w) (hW : WFK K) (ha : (kG K a).1 = 11) (ho : (kG K o).1 = 12) (hi1 : vp_in (nI i + 1) Ln) (hi2 : vp_in (nI i + 2) Ln) (hi3 : vp_in (nI i + 3) Ln) (hi4 : vp_in (nI i + 4) Ln) (hi5 : vp_in (nI i + 5) Ln) (I : MI) (J : MJ) (B : MR) (hLI : LI a o I) (hnext : ∀ (I : MI) (J : MJ) (B : MR), LI a o I → Jg K m 4 H0 w 955 [(0, .ref bS), (1, .ref a), (2, .ref o), (3, .int (nI i))] [] (I, J, B)) : Jg K m 4 H0 w 742 [(0, .ref bS), (1, .ref a), (2, .ref o), (3, .int (nI i))] [] (I, J, B) := by
  refine jl_aload_n G 1 1 dL_law_742 rfl rfl ?_
  refine jl_aload_n G 0 0 dL_law_743 rfl rfl ?_
  refine jl_iload_n G 3 3 dL_law_744 rfl rfl ?_
  refine jl_iconst G (1 : Int32) dL_law_745 (by decide) ?_
  refine jl_iadd G dL_law_746 ?_
  refine jl_sld G hi1 dL_law_747 ?_
  refine jl_ci (rl_V G hW (ci := 10) (n := 1) (As := [.int (xs (ix (nI i + 1)))]) (rest := []) (c_X9_keeping K hW l a (xs (ix (nI i + 1))) ha I J B _ (st_keeping (xs (ix (nI i + 1))) hLI)) ha (by decide) rfl ml_L_100 im_X9_keeping se_X9_keeping in_X9 co_X9_keeping rfl (by decide +kernel) rfl rfl (Nat.le_of_ble_eq_true rfl) (Nat.le_of_ble_eq_true rfl) rfl rfl (Nat.le_of_ble_eq_true rfl) dL_law_748) (fun v0 I1 h1 => ?_)
  refine jl_aload_n G 2 2 dL_law_751 rfl rfl ?_
  refine jl_aload_n G 0 0 dL_law_752 rfl rfl ?_
  refine jl_iload_n G 3 3 dL_law_753 rfl rfl ?_
  refine jl_iconst G (1 : Int32) dL_law_754 (by decide) ?_
  refine jl_iadd G dL_law_755 ?_
  refine jl_sld G hi1 dL_law_756 ?_
  refine jl_ci (rl_V G hW (ci := 11) (n := 1) (As := [.int (xs (ix (nI i + 1)))]) (rest := [.int v0]) (c_X10_keeping K hW l o (xs (ix (nI i + 1))) ho I1 J B _ h1) ho (by decide) rfl ml_L_103 im_X10_keeping se_X10_keeping in_X10 co_X10_keeping rfl (by decide +kernel) rfl rfl (Nat.le_of_ble_eq_true rfl) (Nat.le_of_ble_eq_true rfl) rfl rfl (Nat.le_of_ble_eq_true rfl) dL_law_757) (fun v1 I2 h2 => ?_)
  exact jl_icmp_eq G 955 dL_law_760 (by decide) (fun _ => hnext _ _ _ h2.2) (fun c => absurd h2.1 c)
set_option maxRecDepth 100000 in
theorem lc_21 (G : GL l room_1 K m RL cL_law 4 H0 bS Ln xs w) (hW : WFK K) (ha : (kG K a).1 = 11) (ho : (kG K o).1 = 12) (hi1 : vp_in (nI i + 1) Ln) (hi2 : vp_in (nI i + 2) Ln) (hi3 : vp_in (nI i + 3) Ln) (hi4 : vp_in (nI i + 4) Ln) (hi5 : vp_in (nI i + 5) Ln) (I : MI) (J : MJ) (B : MR) (hLI : LI a o I) (hnext : ∀ (I : MI) (J : MJ) (B : MR), LI a o I → Jg K m 4 H0 w 955 [(0, .ref bS), (1, .ref a), (2, .ref o), (3, .int (nI i))] [] (I, J, B)) : Jg K m 4 H0 w 765 [(0, .ref bS), (1, .ref a), (2, .ref o), (3, .int (nI i))] [] (I, J, B) := by
  refine jl_aload_n G 1 1 dL_law_765 rfl rfl ?_
  refine jl_ci (rl_V G hW (ci := 10) (n := 0) (As := []) (rest := []) (c_X9_best K hW l a ha I J B _ (st_best hLI)) ha (by decide) rfl ml_L_104 im_X9_best se_X9_best in_X9 co_X9_best rfl (by decide +kernel) rfl rfl (Nat.le_of_ble_eq_true rfl) (Nat.le_of_ble_eq_true rfl) rfl rfl (Nat.le_of_ble_eq_true rfl) dL_law_766) (fun v0 I1 h1 => ?_)
  refine jl_aload_n G 2 2 dL_law_769 rfl rfl ?_
  refine jl_ci (rl_V G hW (ci := 11) (n := 0) (As := []) (rest := [.int v0]) (c_X10_best K hW l o ho I1 J B _ h1) ho (by decide) rfl ml_L_107 im_X10_best se_X10_best in_X10 co_X10_best rfl (by decide +kernel) rfl rfl (Nat.le_of_ble_eq_true rfl) (Nat.le_of_ble_eq_true rfl) rfl rfl (Nat.le_of_ble_eq_true rfl) dL_law_770) (fun v1 I2 h2 => ?_)
  exact jl_icmp_eq G 955 dL_law_773 (by decide) (fun _ => hnext _ _ _ h2.2) (fun c => absurd h2.1 c)
set_option maxRecDepth 100000 in
theorem lc_22 (G : GL l room_1 K m RL cL_law 4 H0 bS Ln xs w) (hW : WFK K) (ha : (kG K a).1 = 11) (ho : (kG K o).1 = 12) (hi1 : vp_in (nI i + 1) Ln) (hi2 : vp_in (nI i + 2) Ln) (hi3 : vp_in (nI i + 3) Ln) (hi4 : vp_in (nI i + 4) Ln) (hi5 : vp_in (nI i + 5) Ln) (I : MI) (J : MJ) (B : MR) (hLI : LI a o I) (hnext : ∀ (I : MI) (J : MJ) (B : MR), LI a o I → Jg K m 4 H0 w 955 [(0, .ref bS), (1, .ref a), (2, .ref o), (3, .int (nI i))] [] (I, J, B)) : Jg K m 4 H0 w 778 [(0, .ref bS), (1, .ref a), (2, .ref o), (3, .int (nI i))] [] (I, J, B) := by
  refine jl_aload_n G 1 1 dL_law_778 rfl rfl ?_
  refine jl_aload_n G 0 0 dL_law_779 rfl rfl ?_
  refine jl_iload_n G 3 3 dL_law_780 rfl rfl ?_
  refine jl_iconst G (1 : Int32) dL_law_781 (by decide) ?_
  refine jl_iadd G dL_law_782 ?_
  refine jl_sld G hi1 dL_law_783 ?_
  refine jl_aload_n G 0 0 dL_law_784 rfl rfl ?_
  refine jl_iload_n G 3 3 dL_law_785 rfl rfl ?_
  refine jl_iconst G (2 : Int32) dL_law_786 (by decide) ?_
  refine jl_iadd G dL_law_787 ?_
  refine jl_sld G hi2 dL_law_788 ?_
  have hz0 : Jg K m 4 H0 w 797 [(0, .ref bS), (1, .ref a), (2, .ref o), (3, .int (nI i))] (.int (if (xs (ix (nI i + 2))) = 0 then (0 : Int32) else 1) :: [.int (xs (ix (nI i + 1))), .ref a]) (I, J, B) → Jg K m 4 H0 w 789 [(0, .ref bS), (1, .ref a), (2, .ref o), (3, .int (nI i))] (.int (xs (ix (nI i + 2))) :: [.int (xs (ix (nI i + 1))), .ref a]) (I, J, B) := by
    intro hk
    refine jl_if_eq G 796 dL_law_789 (by decide) (fun c => ?_) (fun c => ?_)
    · refine jl_iconst G (0 : Int32) dL_law_796 (by decide) ?_
      rw [if_pos c] at hk; exact hk
    · refine jl_iconst G (1 : Int32) dL_law_792 (by decide) ?_
      refine jl_goto G 797 dL_law_793 (by decide) ?_
      rw [if_neg c] at hk; exact hk
  refine hz0 ?_
  refine jl_ci (rl_V G hW (ci := 10) (n := 2) (As := [.int (xs (ix (nI i + 1))), .int (if (xs (ix (nI i + 2))) = 0 then (0 : Int32) else 1)]) (rest := []) (c_X9_least K hW l a (xs (ix (nI i + 1))) (if (xs (ix (nI i + 2))) = 0 then (0 : Int32) else 1) ha I J B _ (st_least (xs (ix (nI i + 1))) (if (xs (ix (nI i + 2))) = 0 then (0 : Int32) else 1) hLI)) ha (by decide) rfl ml_L_108 im_X9_least se_X9_least in_X9 co_X9_least rfl (by decide +kernel) rfl rfl (Nat.le_of_ble_eq_true rfl) (Nat.le_of_ble_eq_true rfl) rfl rfl (Nat.le_of_ble_eq_true rfl) dL_law_797) (fun v0 I1 h1 => ?_)
  refine jl_aload_n G 2 2 dL_law_800 rfl rfl ?_
  refine jl_aload_n G 0 0 dL_law_801 rfl rfl ?_
  refine jl_iload_n G 3 3 dL_law_802 rfl rfl ?_
  refine jl_iconst G (1 : Int32) dL_law_803 (by decide) ?_
  refine jl_iadd G dL_law_804 ?_
  refine jl_sld G hi1 dL_law_805 ?_
  refine jl_aload_n G 0 0 dL_law_806 rfl rfl ?_
  refine jl_iload_n G 3 3 dL_law_807 rfl rfl ?_
  refine jl_iconst G (2 : Int32) dL_law_808 (by decide) ?_
  refine jl_iadd G dL_law_809 ?_
  refine jl_sld G hi2 dL_law_810 ?_
  have hz1 : Jg K m 4 H0 w 819 [(0, .ref bS), (1, .ref a), (2, .ref o), (3, .int (nI i))] (.int (if (xs (ix (nI i + 2))) = 0 then (0 : Int32) else 1) :: [.int (xs (ix (nI i + 1))), .ref o, .int v0]) (I1, J, B) → Jg K m 4 H0 w 811 [(0, .ref bS), (1, .ref a), (2, .ref o), (3, .int (nI i))] (.int (xs (ix (nI i + 2))) :: [.int (xs (ix (nI i + 1))), .ref o, .int v0]) (I1, J, B) := by
    intro hk
    refine jl_if_eq G 818 dL_law_811 (by decide) (fun c => ?_) (fun c => ?_)
    · refine jl_iconst G (0 : Int32) dL_law_818 (by decide) ?_
      rw [if_pos c] at hk; exact hk
    · refine jl_iconst G (1 : Int32) dL_law_814 (by decide) ?_
      refine jl_goto G 819 dL_law_815 (by decide) ?_
      rw [if_neg c] at hk; exact hk
  refine hz1 ?_
  refine jl_ci (rl_V G hW (ci := 11) (n := 2) (As := [.int (xs (ix (nI i + 1))), .int (if (xs (ix (nI i + 2))) = 0 then (0 : Int32) else 1)]) (rest := [.int v0]) (c_X10_least K hW l o (xs (ix (nI i + 1))) (if (xs (ix (nI i + 2))) = 0 then (0 : Int32) else 1) ho I1 J B _ h1) ho (by decide) rfl ml_L_112 im_X10_least se_X10_least in_X10 co_X10_least rfl (by decide +kernel) rfl rfl (Nat.le_of_ble_eq_true rfl) (Nat.le_of_ble_eq_true rfl) rfl rfl (Nat.le_of_ble_eq_true rfl) dL_law_819) (fun v1 I2 h2 => ?_)
  exact jl_icmp_eq G 955 dL_law_822 (by decide) (fun _ => hnext _ _ _ h2.2) (fun c => absurd h2.1 c)
set_option maxRecDepth 100000 in
theorem lc_23 (G : GL l room_1 K m RL cL_law 4 H0 bS Ln xs w) (hW : WFK K) (ha : (kG K a).1 = 11) (ho : (kG K o).1 = 12) (hi1 : vp_in (nI i + 1) Ln) (hi2 : vp_in (nI i + 2) Ln) (hi3 : vp_in (nI i + 3) Ln) (hi4 : vp_in (nI i + 4) Ln) (hi5 : vp_in (nI i + 5) Ln) (I : MI) (J : MJ) (B : MR) (hLI : LI a o I) (hnext : ∀ (I : MI) (J : MJ) (B : MR), LI a o I → Jg K m 4 H0 w 955 [(0, .ref bS), (1, .ref a), (2, .ref o), (3, .int (nI i))] [] (I, J, B)) : Jg K m 4 H0 w 827 [(0, .ref bS), (1, .ref a), (2, .ref o), (3, .int (nI i))] [] (I, J, B) := by
  refine jl_aload_n G 1 1 dL_law_827 rfl rfl ?_
  refine jl_ci (rl_V G hW (ci := 10) (n := 0) (As := []) (rest := []) (c_X9_safe K hW l a ha I J B _ (st_safe hLI)) ha (by decide) rfl ml_L_113 im_X9_safe se_X9_safe in_X9 co_X9_safe rfl (by decide +kernel) rfl rfl (Nat.le_of_ble_eq_true rfl) (Nat.le_of_ble_eq_true rfl) rfl rfl (Nat.le_of_ble_eq_true rfl) dL_law_828) (fun v0 I1 h1 => ?_)
  refine jl_aload_n G 2 2 dL_law_831 rfl rfl ?_
  refine jl_ci (rl_V G hW (ci := 11) (n := 0) (As := []) (rest := [.int v0]) (c_X10_safe K hW l o ho I1 J B _ h1) ho (by decide) rfl ml_L_116 im_X10_safe se_X10_safe in_X10 co_X10_safe rfl (by decide +kernel) rfl rfl (Nat.le_of_ble_eq_true rfl) (Nat.le_of_ble_eq_true rfl) rfl rfl (Nat.le_of_ble_eq_true rfl) dL_law_832) (fun v1 I2 h2 => ?_)
  exact jl_icmp_eq G 955 dL_law_835 (by decide) (fun _ => hnext _ _ _ h2.2) (fun c => absurd h2.1 c)
set_option maxRecDepth 100000 in
theorem lc_24 (G : GL l room_1 K m RL cL_law 4 H0 bS Ln xs w) (hW : WFK K) (ha : (kG K a).1 = 11) (ho : (kG K o).1 = 12) (hi1 : vp_in (nI i + 1) Ln) (hi2 : vp_in (nI i + 2) Ln) (hi3 : vp_in (nI i + 3) Ln) (hi4 : vp_in (nI i + 4) Ln) (hi5 : vp_in (nI i + 5) Ln) (I : MI) (J : MJ) (B : MR) (hLI : LI a o I) (hnext : ∀ (I : MI) (J : MJ) (B : MR), LI a o I → Jg K m 4 H0 w 955 [(0, .ref bS), (1, .ref a), (2, .ref o), (3, .int (nI i))] [] (I, J, B)) : Jg K m 4 H0 w 840 [(0, .ref bS), (1, .ref a), (2, .ref o), (3, .int (nI i))] [] (I, J, B) := by
  refine jl_aload_n G 1 1 dL_law_840 rfl rfl ?_
  refine jl_aload_n G 0 0 dL_law_841 rfl rfl ?_
  refine jl_iload_n G 3 3 dL_law_842 rfl rfl ?_
  refine jl_iconst G (1 : Int32) dL_law_843 (by decide) ?_
  refine jl_iadd G dL_law_844 ?_
  refine jl_sld G hi1 dL_law_845 ?_
  refine jl_ci (rl_V G hW (ci := 10) (n := 1) (As := [.int (xs (ix (nI i + 1)))]) (rest := []) (c_X9_rounds K hW l a (xs (ix (nI i + 1))) ha I J B _ (st_rounds (xs (ix (nI i + 1))) hLI)) ha (by decide) rfl ml_L_117 im_X9_rounds se_X9_rounds in_X9 co_X9_rounds rfl (by decide +kernel) rfl rfl (Nat.le_of_ble_eq_true rfl) (Nat.le_of_ble_eq_true rfl) rfl rfl (Nat.le_of_ble_eq_true rfl) dL_law_846) (fun v0 I1 h1 => ?_)
  refine jl_aload_n G 2 2 dL_law_849 rfl rfl ?_
  refine jl_aload_n G 0 0 dL_law_850 rfl rfl ?_
  refine jl_iload_n G 3 3 dL_law_851 rfl rfl ?_
  refine jl_iconst G (1 : Int32) dL_law_852 (by decide) ?_
  refine jl_iadd G dL_law_853 ?_
  refine jl_sld G hi1 dL_law_854 ?_
  refine jl_ci (rl_V G hW (ci := 11) (n := 1) (As := [.int (xs (ix (nI i + 1)))]) (rest := [.int v0]) (c_X10_rounds K hW l o (xs (ix (nI i + 1))) ho I1 J B _ h1) ho (by decide) rfl ml_L_120 im_X10_rounds se_X10_rounds in_X10 co_X10_rounds rfl (by decide +kernel) rfl rfl (Nat.le_of_ble_eq_true rfl) (Nat.le_of_ble_eq_true rfl) rfl rfl (Nat.le_of_ble_eq_true rfl) dL_law_855) (fun v1 _ h2 => ?_)
  exact jl_icmp_eq G 955 dL_law_858 (by decide) (fun _ => hnext _ _ _ h2.2) (fun c => absurd h2.1 c)
set_option maxRecDepth 100000 in
theorem lc_25 (G : GL l room_1 K m RL cL_law 4 H0 bS Ln xs w) (hW : WFK K) (ha : (kG K a).1 = 11) (ho : (kG K o).1 = 12) (hi1 : vp_in (nI i + 1) Ln) (hi2 : vp_in (nI i + 2) Ln) (hi3 : vp_in (nI i + 3) Ln) (hi4 : vp_in (nI i + 4) Ln) (hi5 : vp_in (nI i + 5) Ln) (I : MI) (J : MJ) (B : MR) (hLI : LI a o I) (hnext : ∀ (I : MI) (J : MJ) (B : MR), LI a o I → Jg K m 4 H0 w 955 [(0, .ref bS), (1, .ref a), (2, .ref o), (3, .int (nI i))] [] (I, J, B)) : Jg K m 4 H0 w 863 [(0, .ref bS), (1, .ref a), (2, .ref o), (3, .int (nI i))] [] (I, J, B) := by
  refine jl_aload_n G 1 1 dL_law_863 rfl rfl ?_
  refine jl_aload_n G 0 0 dL_law_864 rfl rfl ?_
  refine jl_iload_n G 3 3 dL_law_865 rfl rfl ?_
  refine jl_iconst G (1 : Int32) dL_law_866 (by decide) ?_
  refine jl_iadd G dL_law_867 ?_
  refine jl_sld G hi1 dL_law_868 ?_
  refine jl_ci (rl_V G hW (ci := 10) (n := 1) (As := [.int (xs (ix (nI i + 1)))]) (rest := []) (c_X9_changed K hW l a (xs (ix (nI i + 1))) ha I J B _ (st_changed (xs (ix (nI i + 1))) hLI)) ha (by decide) rfl ml_L_121 im_X9_changed se_X9_changed in_X9 co_X9_changed rfl (by decide +kernel) rfl rfl (Nat.le_of_ble_eq_true rfl) (Nat.le_of_ble_eq_true rfl) rfl rfl (Nat.le_of_ble_eq_true rfl) dL_law_869) (fun v0 I1 h1 => ?_)
  refine jl_aload_n G 2 2 dL_law_872 rfl rfl ?_
  refine jl_aload_n G 0 0 dL_law_873 rfl rfl ?_
  refine jl_iload_n G 3 3 dL_law_874 rfl rfl ?_
  refine jl_iconst G (1 : Int32) dL_law_875 (by decide) ?_
  refine jl_iadd G dL_law_876 ?_
  refine jl_sld G hi1 dL_law_877 ?_
  refine jl_ci (rl_V G hW (ci := 11) (n := 1) (As := [.int (xs (ix (nI i + 1)))]) (rest := [.int v0]) (c_X10_changed K hW l o (xs (ix (nI i + 1))) ho I1 J B _ h1) ho (by decide) rfl ml_L_124 im_X10_changed se_X10_changed in_X10 co_X10_changed rfl (by decide +kernel) rfl rfl (Nat.le_of_ble_eq_true rfl) (Nat.le_of_ble_eq_true rfl) rfl rfl (Nat.le_of_ble_eq_true rfl) dL_law_878) (fun v1 I2 h2 => ?_)
  exact jl_icmp_eq G 955 dL_law_881 (by decide) (fun _ => hnext _ _ _ h2.2) (fun c => absurd h2.1 c)
set_option maxRecDepth 100000 in
theorem lc_26 (G : GL l room_1 K m RL cL_law 4 H0 bS Ln xs w) (hW : WFK K) (ha : (kG K a).1 = 11) (ho : (kG K o).1 = 12) (hi1 : vp_in (nI i + 1) Ln) (hi2 : vp_in (nI i + 2) Ln) (hi3 : vp_in (nI i + 3) Ln) (hi4 : vp_in (nI i + 4) Ln) (hi5 : vp_in (nI i + 5) Ln) (I : MI) (J : MJ) (B : MR) (hLI : LI a o I) (hnext : ∀ (I : MI) (J : MJ) (B : MR), LI a o I → Jg K m 4 H0 w 955 [(0, .ref bS), (1, .ref a), (2, .ref o), (3, .int (nI i))] [] (I, J, B)) : Jg K m 4 H0 w 886 [(0, .ref bS), (1, .ref a), (2, .ref o), (3, .int (nI i))] [] (I, J, B) := by
  refine jl_aload_n G 1 1 dL_law_886 rfl rfl ?_
  refine jl_aload_n G 0 0 dL_law_887 rfl rfl ?_
  refine jl_iload_n G 3 3 dL_law_888 rfl rfl ?_
  refine jl_iconst G (1 : Int32) dL_law_889 (by decide) ?_
  refine jl_iadd G dL_law_890 ?_
  refine jl_sld G hi1 dL_law_891 ?_
  refine jl_ci (rl_V G hW (ci := 10) (n := 1) (As := [.int (xs (ix (nI i + 1)))]) (rest := []) (c_X9_slipped K hW l a (xs (ix (nI i + 1))) ha I J B _ (st_slipped (xs (ix (nI i + 1))) hLI)) ha (by decide) rfl ml_L_125 im_X9_slipped se_X9_slipped in_X9 co_X9_slipped rfl (by decide +kernel) rfl rfl (Nat.le_of_ble_eq_true rfl) (Nat.le_of_ble_eq_true rfl) rfl rfl (Nat.le_of_ble_eq_true rfl) dL_law_892) (fun v0 I1 h1 => ?_)
  refine jl_aload_n G 2 2 dL_law_895 rfl rfl ?_
  refine jl_aload_n G 0 0 dL_law_896 rfl rfl ?_
  refine jl_iload_n G 3 3 dL_law_897 rfl rfl ?_
  refine jl_iconst G (1 : Int32) dL_law_898 (by decide) ?_
  refine jl_iadd G dL_law_899 ?_
  refine jl_sld G hi1 dL_law_900 ?_
  refine jl_ci (rl_V G hW (ci := 11) (n := 1) (As := [.int (xs (ix (nI i + 1)))]) (rest := [.int v0]) (c_X10_slipped K hW l o (xs (ix (nI i + 1))) ho I1 J B _ h1) ho (by decide) rfl ml_L_128 im_X10_slipped se_X10_slipped in_X10 co_X10_slipped rfl (by decide +kernel) rfl rfl (Nat.le_of_ble_eq_true rfl) (Nat.le_of_ble_eq_true rfl) rfl rfl (Nat.le_of_ble_eq_true rfl) dL_law_901) (fun v1 I2 h2 => ?_)
  exact jl_icmp_eq G 955 dL_law_904 (by decide) (fun _ => hnext _ _ _ h2.2) (fun c => absurd h2.1 c)
set_option maxRecDepth 100000 in
theorem lc_27 (G : GL l room_1 K m RL cL_law 4 H0 bS Ln xs w) (hW : WFK K) (ha : (kG K a).1 = 11) (ho : (kG K o).1 = 12) (hi1 : vp_in (nI i + 1) Ln) (hi2 : vp_in (nI i + 2) Ln) (hi3 : vp_in (nI i + 3) Ln) (hi4 : vp_in (nI i + 4) Ln) (hi5 : vp_in (nI i + 5) Ln) (I : MI) (J : MJ) (B : MR) (hLI : LI a o I) (hnext : ∀ (I : MI) (J : MJ) (B : MR), LI a o I → Jg K m 4 H0 w 955 [(0, .ref bS), (1, .ref a), (2, .ref o), (3, .int (nI i))] [] (I, J, B)) : Jg K m 4 H0 w 909 [(0, .ref bS), (1, .ref a), (2, .ref o), (3, .int (nI i))] [] (I, J, B) := by
  refine jl_aload_n G 1 1 dL_law_909 rfl rfl ?_
  refine jl_aload_n G 0 0 dL_law_910 rfl rfl ?_
  refine jl_iload_n G 3 3 dL_law_911 rfl rfl ?_
  refine jl_iconst G (1 : Int32) dL_law_912 (by decide) ?_
  refine jl_iadd G dL_law_913 ?_
  refine jl_sld G hi1 dL_law_914 ?_
  refine jl_ci (rl_V G hW (ci := 10) (n := 1) (As := [.int (xs (ix (nI i + 1)))]) (rest := []) (c_X9_image K hW l a (xs (ix (nI i + 1))) ha I J B _ (st_image (xs (ix (nI i + 1))) hLI)) ha (by decide) rfl ml_L_129 im_X9_image se_X9_image in_X9 co_X9_image rfl (by decide +kernel) rfl rfl (Nat.le_of_ble_eq_true rfl) (Nat.le_of_ble_eq_true rfl) rfl rfl (Nat.le_of_ble_eq_true rfl) dL_law_915) (fun v0 I1 h1 => ?_)
  refine jl_aload_n G 2 2 dL_law_918 rfl rfl ?_
  refine jl_aload_n G 0 0 dL_law_919 rfl rfl ?_
  refine jl_iload_n G 3 3 dL_law_920 rfl rfl ?_
  refine jl_iconst G (1 : Int32) dL_law_921 (by decide) ?_
  refine jl_iadd G dL_law_922 ?_
  refine jl_sld G hi1 dL_law_923 ?_
  refine jl_ci (rl_V G hW (ci := 11) (n := 1) (As := [.int (xs (ix (nI i + 1)))]) (rest := [.int v0]) (c_X10_image K hW l o (xs (ix (nI i + 1))) ho I1 J B _ h1) ho (by decide) rfl ml_L_133 im_X10_image se_X10_image in_X10 co_X10_image rfl (by decide +kernel) rfl rfl (Nat.le_of_ble_eq_true rfl) (Nat.le_of_ble_eq_true rfl) rfl rfl (Nat.le_of_ble_eq_true rfl) dL_law_924) (fun v1 I2 h2 => ?_)
  exact jl_icmp_eq G 955 dL_law_927 (by decide) (fun _ => hnext _ _ _ h2.2) (fun c => absurd h2.1 c)
set_option maxRecDepth 100000 in
theorem lc_28 (G : GL l room_1 K m RL cL_law 4 H0 bS Ln xs w) (hW : WFK K) (ha : (kG K a).1 = 11) (ho : (kG K o).1 = 12) (hi1 : vp_in (nI i + 1) Ln) (hi2 : vp_in (nI i + 2) Ln) (hi3 : vp_in (nI i + 3) Ln) (hi4 : vp_in (nI i + 4) Ln) (hi5 : vp_in (nI i + 5) Ln) (I : MI) (J : MJ) (B : MR) (hLI : LI a o I) (hnext : ∀ (I : MI) (J : MJ) (B : MR), LI a o I → Jg K m 4 H0 w 955 [(0, .ref bS), (1, .ref a), (2, .ref o), (3, .int (nI i))] [] (I, J, B)) : Jg K m 4 H0 w 932 [(0, .ref bS), (1, .ref a), (2, .ref o), (3, .int (nI i))] [] (I, J, B) := by
  refine jl_aload_n G 1 1 dL_law_932 rfl rfl ?_
  refine jl_aload_n G 0 0 dL_law_933 rfl rfl ?_
  refine jl_iload_n G 3 3 dL_law_934 rfl rfl ?_
  refine jl_iconst G (1 : Int32) dL_law_935 (by decide) ?_
  refine jl_iadd G dL_law_936 ?_
  refine jl_sld G hi1 dL_law_937 ?_
  refine jl_ci (rl_V G hW (ci := 10) (n := 1) (As := [.int (xs (ix (nI i + 1)))]) (rest := []) (c_X9_again K hW l a (xs (ix (nI i + 1))) ha I J B _ (st_again (xs (ix (nI i + 1))) hLI)) ha (by decide) rfl ml_L_134 im_X9_again se_X9_again in_X9 co_X9_again rfl (by decide +kernel) rfl rfl (Nat.le_of_ble_eq_true rfl) (Nat.le_of_ble_eq_true rfl) rfl rfl (Nat.le_of_ble_eq_true rfl) dL_law_938) (fun v0 I1 h1 => ?_)
  refine jl_aload_n G 2 2 dL_law_941 rfl rfl ?_
  refine jl_aload_n G 0 0 dL_law_942 rfl rfl ?_
  refine jl_iload_n G 3 3 dL_law_943 rfl rfl ?_
  refine jl_iconst G (1 : Int32) dL_law_944 (by decide) ?_
  refine jl_iadd G dL_law_945 ?_
  refine jl_sld G hi1 dL_law_946 ?_
  refine jl_ci (rl_V G hW (ci := 11) (n := 1) (As := [.int (xs (ix (nI i + 1)))]) (rest := [.int v0]) (c_X10_again K hW l o (xs (ix (nI i + 1))) ho I1 J B _ h1) ho (by decide) rfl ml_L_137 im_X10_again se_X10_again in_X10 co_X10_again rfl (by decide +kernel) rfl rfl (Nat.le_of_ble_eq_true rfl) (Nat.le_of_ble_eq_true rfl) rfl rfl (Nat.le_of_ble_eq_true rfl) dL_law_947) (fun v1 I2 h2 => ?_)
  exact jl_icmp_eq G 955 dL_law_950 (by decide) (fun _ => hnext _ _ _ h2.2) (fun c => absurd h2.1 c)
theorem lw_stop {i : Nat} (hL : Ln ≤ 3072) (hi : i ≤ 4000) (h : ¬ nI Ln - 6 < nI i) : i + 6 ≤ Ln := by
  rcases Nat.lt_or_ge Ln 6 with q | q
  · exfalso
    have e : ∀ n, n < 6 → nI n - 6 < 0 := by decide
    exact h (Int32.lt_of_lt_of_le (e Ln q) (nI_pos' (by omega)))
  · rw [show nI Ln - 6 = nI (Ln - 6) from nI_sub (z := 6) q] at h
    rcases Nat.lt_or_ge (Ln - 6) i with q2 | q2
    · exact absurd (nI_lt q2 (by omega)) h
    · omega
set_option maxRecDepth 100000 in
theorem law_loop (G : GL l room_1 K m RL cL_law 4 H0 bS Ln xs w) (hW : WFK K) (ha : (kG K a).1 = 11) (ho : (kG K o).1 = 12) (hL : Ln ≤ 3072) (hend : ∀ (Lo : List (Nat × Value)) (mem : Mm), Jg K m 4 H0 w 961 Lo [] mem) (n : Nat) : ∀ i, Ln + 6 ≤ i + n → i ≤ Ln + 5 → ∀ (I : MI) (J : MJ) (B : MR), LI a o I → Jg K m 4 H0 w 18 [(0, .ref bS), (1, .ref a), (2, .ref o), (3, .int (nI i))] [] (I, J, B) := by
  induction n with
  | zero => intro i h1 h2; omega
  | succ n ih =>
    intro i h1 h2 I J B hLI
    refine jl_iload_n G 3 3 dL_law_18 rfl rfl ?_
    refine jl_aload_n G 0 0 dL_law_19 rfl rfl ?_
    refine jl_slen G dL_law_20 ?_
    refine jl_bipush G (6 : Int32) dL_law_21 (by decide) ?_
    refine jl_isub G dL_law_23 ?_
    refine jl_icmp_gt G 961 dL_law_24 (by decide) (fun _ => hend _ _) (fun c => ?_)
    have h6 := lw_stop hL (by omega) c
    have hnext : ∀ (I : MI) (J : MJ) (B : MR), LI a o I → Jg K m 4 H0 w 955 [(0, .ref bS), (1, .ref a), (2, .ref o), (3, .int (nI i))] [] (I, J, B) := fun I J B h => by
      refine jl_iinc G 3 (nI (i + 6)) [(3, .int (nI (i + 6))), (0, .ref bS), (1, .ref a), (2, .ref o)] dL_law_955 rfl (nI_add i 6) (by decide) rfl ?_
      refine jl_goto G 18 dL_law_958 (by decide) ?_
      exact Jg.sub [1, 2, 3, 0] rfl (ih (i + 6) (by omega) (by omega) I J B h)
    have hin : ∀ k, k < 6 → vp_in (nI i + nI k) Ln := fun k hk => by rw [nI_add]; exact inn (by omega) (by omega)
    refine jl_aload_n G 0 0 dL_law_27 rfl rfl ?_
    refine jl_iload_n G 3 3 dL_law_28 rfl rfl ?_
    refine jl_sld G (inn (by omega) (by omega)) dL_law_29 ?_
    refine jl_bipush G (31 : Int32) dL_law_30 (by decide) ?_
    refine jl_iand G dL_law_32 ?_
    generalize xs (ix (nI i)) &&& (31 : Int32) = v
    by_cases c0 : v = (0 : Int32)
    · refine jl_tableIn G 164 dL_law_33 (by rw [c0]; decide) (by rw [c0]; decide) (by rw [c0] <;> rfl) (by decide) ?_
      exact lc_0 G hW ha ho (hin 1 (by omega)) (hin 2 (by omega)) (hin 3 (by omega)) (hin 4 (by omega)) (hin 5 (by omega)) I J B hLI hnext
    by_cases c1 : v = (1 : Int32)
    · refine jl_tableIn G 227 dL_law_33 (by rw [c1]; decide) (by rw [c1]; decide) (by rw [c1] <;> rfl) (by decide) ?_
      exact lc_1 G hW ha ho (hin 1 (by omega)) (hin 2 (by omega)) (hin 3 (by omega)) (hin 4 (by omega)) (hin 5 (by omega)) I J B hLI hnext
    by_cases c2 : v = (2 : Int32)
    · refine jl_tableIn G 250 dL_law_33 (by rw [c2]; decide) (by rw [c2]; decide) (by rw [c2] <;> rfl) (by decide) ?_
      exact lc_2 G hW ha ho (hin 1 (by omega)) (hin 2 (by omega)) (hin 3 (by omega)) (hin 4 (by omega)) (hin 5 (by omega)) I J B hLI hnext
    by_cases c3 : v = (3 : Int32)
    · refine jl_tableIn G 263 dL_law_33 (by rw [c3]; decide) (by rw [c3]; decide) (by rw [c3] <;> rfl) (by decide) ?_
      exact lc_3 G hW ha ho (hin 1 (by omega)) (hin 2 (by omega)) (hin 3 (by omega)) (hin 4 (by omega)) (hin 5 (by omega)) I J B hLI hnext
    by_cases c4 : v = (4 : Int32)
    · refine jl_tableIn G 286 dL_law_33 (by rw [c4]; decide) (by rw [c4]; decide) (by rw [c4] <;> rfl) (by decide) ?_
      exact lc_4 G hW ha ho (hin 1 (by omega)) (hin 2 (by omega)) (hin 3 (by omega)) (hin 4 (by omega)) (hin 5 (by omega)) I J B hLI hnext
    by_cases c5 : v = (5 : Int32)
    · refine jl_tableIn G 309 dL_law_33 (by rw [c5]; decide) (by rw [c5]; decide) (by rw [c5] <;> rfl) (by decide) ?_
      exact lc_5 G hW ha ho (hin 1 (by omega)) (hin 2 (by omega)) (hin 3 (by omega)) (hin 4 (by omega)) (hin 5 (by omega)) I J B hLI hnext
    by_cases c6 : v = (6 : Int32)
    · refine jl_tableIn G 320 dL_law_33 (by rw [c6]; decide) (by rw [c6]; decide) (by rw [c6] <;> rfl) (by decide) ?_
      exact lc_6 G hW ha ho (hin 1 (by omega)) (hin 2 (by omega)) (hin 3 (by omega)) (hin 4 (by omega)) (hin 5 (by omega)) I J B hLI hnext
    by_cases c7 : v = (7 : Int32)
    · refine jl_tableIn G 353 dL_law_33 (by rw [c7]; decide) (by rw [c7]; decide) (by rw [c7] <;> rfl) (by decide) ?_
      exact lc_7 G hW ha ho (hin 1 (by omega)) (hin 2 (by omega)) (hin 3 (by omega)) (hin 4 (by omega)) (hin 5 (by omega)) I J B hLI hnext
    by_cases c8 : v = (8 : Int32)
    · refine jl_tableIn G 376 dL_law_33 (by rw [c8]; decide) (by rw [c8]; decide) (by rw [c8] <;> rfl) (by decide) ?_
      exact lc_8 G hW ha ho (hin 1 (by omega)) (hin 2 (by omega)) (hin 3 (by omega)) (hin 4 (by omega)) (hin 5 (by omega)) I J B hLI hnext
    by_cases c9 : v = (9 : Int32)
    · refine jl_tableIn G 409 dL_law_33 (by rw [c9]; decide) (by rw [c9]; decide) (by rw [c9] <;> rfl) (by decide) ?_
      exact lc_9 G hW ha ho (hin 1 (by omega)) (hin 2 (by omega)) (hin 3 (by omega)) (hin 4 (by omega)) (hin 5 (by omega)) I J B hLI hnext
    by_cases c10 : v = (10 : Int32)
    · refine jl_tableIn G 442 dL_law_33 (by rw [c10]; decide) (by rw [c10]; decide) (by rw [c10] <;> rfl) (by decide) ?_
      exact lc_10 G hW ha ho (hin 1 (by omega)) (hin 2 (by omega)) (hin 3 (by omega)) (hin 4 (by omega)) (hin 5 (by omega)) I J B hLI hnext
    by_cases c11 : v = (11 : Int32)
    · refine jl_tableIn G 495 dL_law_33 (by rw [c11]; decide) (by rw [c11]; decide) (by rw [c11] <;> rfl) (by decide) ?_
      exact lc_11 G hW ha ho (hin 1 (by omega)) (hin 2 (by omega)) (hin 3 (by omega)) (hin 4 (by omega)) (hin 5 (by omega)) I J B hLI hnext
    by_cases c12 : v = (12 : Int32)
    · refine jl_tableIn G 538 dL_law_33 (by rw [c12]; decide) (by rw [c12]; decide) (by rw [c12] <;> rfl) (by decide) ?_
      exact lc_12 G hW ha ho (hin 1 (by omega)) (hin 2 (by omega)) (hin 3 (by omega)) (hin 4 (by omega)) (hin 5 (by omega)) I J B hLI hnext
    by_cases c13 : v = (13 : Int32)
    · refine jl_tableIn G 571 dL_law_33 (by rw [c13]; decide) (by rw [c13]; decide) (by rw [c13] <;> rfl) (by decide) ?_
      exact lc_13 G hW ha ho (hin 1 (by omega)) (hin 2 (by omega)) (hin 3 (by omega)) (hin 4 (by omega)) (hin 5 (by omega)) I J B hLI hnext
    by_cases c14 : v = (14 : Int32)
    · refine jl_tableIn G 594 dL_law_33 (by rw [c14]; decide) (by rw [c14]; decide) (by rw [c14] <;> rfl) (by decide) ?_
      exact lc_14 G hW ha ho (hin 1 (by omega)) (hin 2 (by omega)) (hin 3 (by omega)) (hin 4 (by omega)) (hin 5 (by omega)) I J B hLI hnext
    by_cases c15 : v = (15 : Int32)
    · refine jl_tableIn G 617 dL_law_33 (by rw [c15]; decide) (by rw [c15]; decide) (by rw [c15] <;> rfl) (by decide) ?_
      exact lc_15 G hW ha ho (hin 1 (by omega)) (hin 2 (by omega)) (hin 3 (by omega)) (hin 4 (by omega)) (hin 5 (by omega)) I J B hLI hnext
    by_cases c16 : v = (16 : Int32)
    · refine jl_tableIn G 640 dL_law_33 (by rw [c16]; decide) (by rw [c16]; decide) (by rw [c16] <;> rfl) (by decide) ?_
      exact lc_16 G hW ha ho (hin 1 (by omega)) (hin 2 (by omega)) (hin 3 (by omega)) (hin 4 (by omega)) (hin 5 (by omega)) I J B hLI hnext
    by_cases c17 : v = (17 : Int32)
    · refine jl_tableIn G 673 dL_law_33 (by rw [c17]; decide) (by rw [c17]; decide) (by rw [c17] <;> rfl) (by decide) ?_
      exact lc_17 G hW ha ho (hin 1 (by omega)) (hin 2 (by omega)) (hin 3 (by omega)) (hin 4 (by omega)) (hin 5 (by omega)) I J B hLI hnext
    by_cases c18 : v = (18 : Int32)
    · refine jl_tableIn G 706 dL_law_33 (by rw [c18]; decide) (by rw [c18]; decide) (by rw [c18] <;> rfl) (by decide) ?_
      exact lc_18 G hW ha ho (hin 1 (by omega)) (hin 2 (by omega)) (hin 3 (by omega)) (hin 4 (by omega)) (hin 5 (by omega)) I J B hLI hnext
    by_cases c19 : v = (19 : Int32)
    · refine jl_tableIn G 719 dL_law_33 (by rw [c19]; decide) (by rw [c19]; decide) (by rw [c19] <;> rfl) (by decide) ?_
      exact lc_19 G hW ha ho (hin 1 (by omega)) (hin 2 (by omega)) (hin 3 (by omega)) (hin 4 (by omega)) (hin 5 (by omega)) I J B hLI hnext
    by_cases c20 : v = (20 : Int32)
    · refine jl_tableIn G 742 dL_law_33 (by rw [c20]; decide) (by rw [c20]; decide) (by rw [c20] <;> rfl) (by decide) ?_
      exact lc_20 G hW ha ho (hin 1 (by omega)) (hin 2 (by omega)) (hin 3 (by omega)) (hin 4 (by omega)) (hin 5 (by omega)) I J B hLI hnext
    by_cases c21 : v = (21 : Int32)
    · refine jl_tableIn G 765 dL_law_33 (by rw [c21]; decide) (by rw [c21]; decide) (by rw [c21] <;> rfl) (by decide) ?_
      exact lc_21 G hW ha ho (hin 1 (by omega)) (hin 2 (by omega)) (hin 3 (by omega)) (hin 4 (by omega)) (hin 5 (by omega)) I J B hLI hnext
    by_cases c22 : v = (22 : Int32)
    · refine jl_tableIn G 778 dL_law_33 (by rw [c22]; decide) (by rw [c22]; decide) (by rw [c22] <;> rfl) (by decide) ?_
      exact lc_22 G hW ha ho (hin 1 (by omega)) (hin 2 (by omega)) (hin 3 (by omega)) (hin 4 (by omega)) (hin 5 (by omega)) I J B hLI hnext
    by_cases c23 : v = (23 : Int32)
    · refine jl_tableIn G 827 dL_law_33 (by rw [c23]; decide) (by rw [c23]; decide) (by rw [c23] <;> rfl) (by decide) ?_
      exact lc_23 G hW ha ho (hin 1 (by omega)) (hin 2 (by omega)) (hin 3 (by omega)) (hin 4 (by omega)) (hin 5 (by omega)) I J B hLI hnext
    by_cases c24 : v = (24 : Int32)
    · refine jl_tableIn G 840 dL_law_33 (by rw [c24]; decide) (by rw [c24]; decide) (by rw [c24] <;> rfl) (by decide) ?_
      exact lc_24 G hW ha ho (hin 1 (by omega)) (hin 2 (by omega)) (hin 3 (by omega)) (hin 4 (by omega)) (hin 5 (by omega)) I J B hLI hnext
    by_cases c25 : v = (25 : Int32)
    · refine jl_tableIn G 863 dL_law_33 (by rw [c25]; decide) (by rw [c25]; decide) (by rw [c25] <;> rfl) (by decide) ?_
      exact lc_25 G hW ha ho (hin 1 (by omega)) (hin 2 (by omega)) (hin 3 (by omega)) (hin 4 (by omega)) (hin 5 (by omega)) I J B hLI hnext
    by_cases c26 : v = (26 : Int32)
    · refine jl_tableIn G 886 dL_law_33 (by rw [c26]; decide) (by rw [c26]; decide) (by rw [c26] <;> rfl) (by decide) ?_
      exact lc_26 G hW ha ho (hin 1 (by omega)) (hin 2 (by omega)) (hin 3 (by omega)) (hin 4 (by omega)) (hin 5 (by omega)) I J B hLI hnext
    by_cases c27 : v = (27 : Int32)
    · refine jl_tableIn G 909 dL_law_33 (by rw [c27]; decide) (by rw [c27]; decide) (by rw [c27] <;> rfl) (by decide) ?_
      exact lc_27 G hW ha ho (hin 1 (by omega)) (hin 2 (by omega)) (hin 3 (by omega)) (hin 4 (by omega)) (hin 5 (by omega)) I J B hLI hnext
    by_cases c28 : v = (28 : Int32)
    · refine jl_tableIn G 932 dL_law_33 (by rw [c28]; decide) (by rw [c28]; decide) (by rw [c28] <;> rfl) (by decide) ?_
      exact lc_28 G hW ha ho (hin 1 (by omega)) (hin 2 (by omega)) (hin 3 (by omega)) (hin 4 (by omega)) (hin 5 (by omega)) I J B hLI hnext
    have n0 := sw_ne (n := 0) rfl c0
    have n1 := sw_ne (n := 1) rfl c1
    have n2 := sw_ne (n := 2) rfl c2
    have n3 := sw_ne (n := 3) rfl c3
    have n4 := sw_ne (n := 4) rfl c4
    have n5 := sw_ne (n := 5) rfl c5
    have n6 := sw_ne (n := 6) rfl c6
    have n7 := sw_ne (n := 7) rfl c7
    have n8 := sw_ne (n := 8) rfl c8
    have n9 := sw_ne (n := 9) rfl c9
    have n10 := sw_ne (n := 10) rfl c10
    have n11 := sw_ne (n := 11) rfl c11
    have n12 := sw_ne (n := 12) rfl c12
    have n13 := sw_ne (n := 13) rfl c13
    have n14 := sw_ne (n := 14) rfl c14
    have n15 := sw_ne (n := 15) rfl c15
    have n16 := sw_ne (n := 16) rfl c16
    have n17 := sw_ne (n := 17) rfl c17
    have n18 := sw_ne (n := 18) rfl c18
    have n19 := sw_ne (n := 19) rfl c19
    have n20 := sw_ne (n := 20) rfl c20
    have n21 := sw_ne (n := 21) rfl c21
    have n22 := sw_ne (n := 22) rfl c22
    have n23 := sw_ne (n := 23) rfl c23
    have n24 := sw_ne (n := 24) rfl c24
    have n25 := sw_ne (n := 25) rfl c25
    have n26 := sw_ne (n := 26) rfl c26
    have n27 := sw_ne (n := 27) rfl c27
    have n28 := sw_ne (n := 28) rfl c28
    refine jl_tableOut G 955 dL_law_33 (by omega) (by decide) ?_
    exact hnext I J B hLI
end
