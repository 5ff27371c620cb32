abbrev rm_X10_readsLine : Room := { frames := 4, cells := 0, slots := 0, locals := 90 }
def w_X10_readsLine_p190 (a0 : Nat)  (I : MI) (J : MJ)  (Q : MI → MJ → Prop) : Prop :=
(w_X10_sign a0 (59 : Int32) I J (fun I25 J26 =>
Q I25 J26))
set_option maxHeartbeats 4000000 in
set_option maxRecDepth 100000 in
theorem m_X10_readsLine_p190 {K : Kx} {l : Launch} {m : MethodId} {H0 : Heap} {Q : MI → MJ → Prop} {w : HW} {B : MR} (G : Gd l rm_X10_readsLine K m RX10 cX10_readsLine 2 H0 none (va_Qv (S := (MI × MJ)) (fun u => Q u.1 u.2) (fun u t => HP K (u.1, u.2, B) t.heap) (AA K)) w) (hW : WFK K) (a0 : Nat)  (ka0 : (kG K a0).1 = 12)  (I : MI) (J : MJ)   (h : w_X10_readsLine_p190 a0 I J Q) : Jg K m 2 H0 w 190 [(0, .ref a0)] [] (I, J, B) := by
  unfold w_X10_readsLine_p190 at h
  refine j_aload_n G 0 0 dX10_readsLine_190 rfl rfl ?_
  refine j_bipush G (59 : Int32) dX10_readsLine_191 (by decide) ?_
  refine j_cv (rn_V G hW (ci := 11) (n := 1) (As := [.int (59 : Int32)]) (rest := []) (c_X10_sign K hW l a0 (59 : Int32) ka0 I J B _ h) ka0 (by decide) rfl ml_X10_398 im_X10_sign se_X10_sign in_X10 co_X10_sign rfl (by decide +kernel) rfl rfl (by decide) (by decide) rfl rfl (Nat.le_of_ble_eq_true rfl) dX10_readsLine_193) (fun ⟨I25, J26⟩ h => ?_)
  exact j_retv G (I25, J26) dX10_readsLine_196 h rfl
def w_X10_readsLine (a0 : Nat) (I : MI) (J : MJ) (Q : MI → MJ → Prop) : Prop :=
(w_X10_hasWord a0 (1818326117 : Int64) I J (fun r1 I2 J3 =>
((r1 = 0 → (w_X10_hasWord a0 (1919905645 : Int64) I2 J3 (fun r5 I6 J7 =>
((r5 = 0 → (w_X10_hasWord a0 (1667591276 : Int64) I6 J7 (fun r9 I10 J11 =>
((r9 = 0 → (w_X10_hasWord a0 (7497063 : Int64) I10 J11 (fun r13 I14 J15 =>
((r13 = 0 → (w_X10_hasWord a0 (1801807216 : Int64) I14 J15 (fun r17 I18 J19 =>
((r17 = 0 → (w_X10_isName a0 I18 J19 (fun r21 =>
((r21 = 0 → (w_X10_isGood a0 I18 (fun r23 =>
((r23 = 0 → w_X10_readsLine_p190 a0 I18 J19 Q) ∧
(¬ r23 = 0 → (w_X10_readsInstruction a0 I18 J19 (fun I27 J28 =>
w_X10_readsLine_p190 a0 I27 J28 Q))))))) ∧
(¬ r21 = 0 → (w_X10_reads a0 I18 J19 (fun I29 J30 =>
(w_X10_isGood a0 I29 (fun r31 =>
((r31 = 0 → w_X10_readsLine_p190 a0 I29 J30 Q) ∧
(¬ r31 = 0 → (w_X10_readsInstruction a0 I29 J30 (fun I33 J34 =>
w_X10_readsLine_p190 a0 I33 J34 Q))))))))))))) ∧
(¬ r17 = 0 → (w_X10_letterTaken a0 I18 J19 (fun r36 I37 J38 =>
(∀ I39, I39 = ui I37 (a0 + 1) (ix (1079 : Int32)) ((I18 (a0 + 1) (ix (1079 : Int32))) ||| ((1 : Int32) <<< (r36 &&& 31))) →
w_X10_readsLine_p190 a0 I39 J38 Q)))))))) ∧
(¬ r13 = 0 → (w_X10_letterTaken a0 I14 J15 (fun r40 I41 J42 =>
(w_X10_numeral a0 (0 : Int32) (999 : Int32) I41 J42 (fun r44 I45 J46 =>
(vp_in ((1071 : Int32) + r40) 4905 ∧
(∀ I48, I48 = ui I45 (a0 + 1) (ix ((1071 : Int32) + r40)) r44 →
w_X10_readsLine_p190 a0 I48 J46 Q))))))))))) ∧
(¬ r9 = 0 → (w_X10_numeral a0 (0 : Int32) (31 : Int32) I10 J11 (fun r49 I50 J51 =>
(w_X10_numeral a0 (0 : Int32) (999 : Int32) I50 J51 (fun r53 I54 J55 =>
(vp_in ((1039 : Int32) + r49) 4905 ∧
(∀ I57, I57 = ui I54 (a0 + 1) (ix ((1039 : Int32) + r49)) r53 →
w_X10_readsLine_p190 a0 I57 J55 Q))))))))))) ∧
(¬ r5 = 0 → (w_X10_queueTaken a0 I6 J7 (fun r58 I59 J60 =>
(w_X10_numeral a0 (1 : Int32) (6 : Int32) I59 J60 (fun r62 I63 J64 =>
(vp_in ((1033 : Int32) + r58) 4905 ∧
(∀ I66, I66 = ui I63 (a0 + 1) (ix ((1033 : Int32) + r58)) r62 →
w_X10_readsLine_p190 a0 I66 J64 Q))))))))))) ∧
(¬ r1 = 0 → (w_X10_numeral a0 (1 : Int32) (9 : Int32) I2 J3 (fun r68 I69 J70 =>
(∀ I71, I71 = ui I69 (a0 + 1) (ix (1032 : Int32)) r68 →
w_X10_readsLine_p190 a0 I71 J70 Q)))))))
set_option maxHeartbeats 4000000 in
set_option maxRecDepth 100000 in
theorem c_X10_readsLine (K : Kx) (hW : WFK K) (l : Launch) (a0 : Nat) (k0 : (kG K a0).1 = 12) (I : MI) (J : MJ) (B : MR) (Q : MI → MJ → Prop) (h : w_X10_readsLine a0 I J Q) : Con K l yX10_readsLine (wsT yX10_readsLine cX10_readsLine 2 none) rm_X10_readsLine [.ref a0] (I, J, B) (va_Qv (S := (MI × MJ)) (fun u => Q u.1 u.2) (fun u t => HP K (u.1, u.2, B) t.heap) (AA K)) := by
  refine Con.ofJ RX10 rfl (by decide) (Nat.le_of_ble_eq_true rfl) (fun m H0 w G => ?_)
  unfold w_X10_readsLine at h
  show Jg K m 2 H0 w 0 [(0, .ref a0)] [] (I, J, B)
  refine j_aload_n G 0 0 dX10_readsLine_0 rfl rfl ?_
  refine j_ldc2 G (1818326117 : Int64) cl_X10_372 dX10_readsLine_1 ?_
  refine j_ci (rn_V G hW (ci := 11) (n := 1) (As := [.long (1818326117 : Int64)]) (rest := []) (c_X10_hasWord K hW l a0 (1818326117 : Int64) k0 I J B _ h) k0 (by decide) rfl ml_X10_369 im_X10_hasWord se_X10_hasWord in_X10 co_X10_hasWord rfl (by decide +kernel) rfl rfl (by decide) (by decide) rfl rfl (Nat.le_of_ble_eq_true rfl) dX10_readsLine_4) (fun r1 ⟨I2, J3⟩ h => ?_)
  refine j_if_eq G 28 dX10_readsLine_7 (by decide) (fun c4 => ?_) (fun c4 => ?_)
  · have h := h.1 c4
    refine j_aload_n G 0 0 dX10_readsLine_28 rfl rfl ?_
    refine j_ldc2 G (1919905645 : Int64) cl_X10_374 dX10_readsLine_29 ?_
    refine j_ci (rn_V G hW (ci := 11) (n := 1) (As := [.long (1919905645 : Int64)]) (rest := []) (c_X10_hasWord K hW l a0 (1919905645 : Int64) k0 I2 J3 B _ h) k0 (by decide) rfl ml_X10_369 im_X10_hasWord se_X10_hasWord in_X10 co_X10_hasWord rfl (by decide +kernel) rfl rfl (by decide) (by decide) rfl rfl (Nat.le_of_ble_eq_true rfl) dX10_readsLine_32) (fun r5 ⟨I6, J7⟩ h => ?_)
    refine j_if_eq G 63 dX10_readsLine_35 (by decide) (fun c8 => ?_) (fun c8 => ?_)
    · have h := h.1 c8
      refine j_aload_n G 0 0 dX10_readsLine_63 rfl rfl ?_
      refine j_ldc2 G (1667591276 : Int64) cl_X10_376 dX10_readsLine_64 ?_
      refine j_ci (rn_V G hW (ci := 11) (n := 1) (As := [.long (1667591276 : Int64)]) (rest := []) (c_X10_hasWord K hW l a0 (1667591276 : Int64) k0 I6 J7 B _ h) k0 (by decide) rfl ml_X10_369 im_X10_hasWord se_X10_hasWord in_X10 co_X10_hasWord rfl (by decide +kernel) rfl rfl (by decide) (by decide) rfl rfl (Nat.le_of_ble_eq_true rfl) dX10_readsLine_67) (fun r9 ⟨I10, J11⟩ h => ?_)
      refine j_if_eq G 102 dX10_readsLine_70 (by decide) (fun c12 => ?_) (fun c12 => ?_)
      · have h := h.1 c12
        refine j_aload_n G 0 0 dX10_readsLine_102 rfl rfl ?_
        refine j_ldc2 G (7497063 : Int64) cl_X10_378 dX10_readsLine_103 ?_
        refine j_ci (rn_V G hW (ci := 11) (n := 1) (As := [.long (7497063 : Int64)]) (rest := []) (c_X10_hasWord K hW l a0 (7497063 : Int64) k0 I10 J11 B _ h) k0 (by decide) rfl ml_X10_369 im_X10_hasWord se_X10_hasWord in_X10 co_X10_hasWord rfl (by decide +kernel) rfl rfl (by decide) (by decide) rfl rfl (Nat.le_of_ble_eq_true rfl) dX10_readsLine_106) (fun r13 ⟨I14, J15⟩ h => ?_)
        refine j_if_eq G 138 dX10_readsLine_109 (by decide) (fun c16 => ?_) (fun c16 => ?_)
        · have h := h.1 c16
          refine j_aload_n G 0 0 dX10_readsLine_138 rfl rfl ?_
          refine j_ldc2 G (1801807216 : Int64) cl_X10_380 dX10_readsLine_139 ?_
          refine j_ci (rn_V G hW (ci := 11) (n := 1) (As := [.long (1801807216 : Int64)]) (rest := []) (c_X10_hasWord K hW l a0 (1801807216 : Int64) k0 I14 J15 B _ h) k0 (by decide) rfl ml_X10_369 im_X10_hasWord se_X10_hasWord in_X10 co_X10_hasWord rfl (by decide +kernel) rfl rfl (by decide) (by decide) rfl rfl (Nat.le_of_ble_eq_true rfl) dX10_readsLine_142) (fun r17 ⟨I18, J19⟩ h => ?_)
          refine j_if_eq G 168 dX10_readsLine_145 (by decide) (fun c20 => ?_) (fun c20 => ?_)
          · have h := h.1 c20
            refine j_aload_n G 0 0 dX10_readsLine_168 rfl rfl ?_
            refine j_ci (rn_V G hW (ci := 11) (n := 0) (As := []) (rest := []) (c_X10_isName K hW l a0 k0 I18 J19 B _ h) k0 (by decide) rfl ml_X10_401 im_X10_isName se_X10_isName in_X10 co_X10_isName rfl (by decide +kernel) rfl rfl (by decide) (by decide) rfl rfl (Nat.le_of_ble_eq_true rfl) dX10_readsLine_169) (fun r21 _ h => ?_)
            refine j_if_eq G 179 dX10_readsLine_172 (by decide) (fun c22 => ?_) (fun c22 => ?_)
            · have h := h.1 c22
              refine j_aload_n G 0 0 dX10_readsLine_179 rfl rfl ?_
              refine j_ci (rn_V G hW (ci := 11) (n := 0) (As := []) (rest := []) (c_X10_isGood K hW l a0 k0 I18 J19 B _ h) k0 (by decide) rfl ml_X10_333 im_X10_isGood se_X10_isGood in_X10 co_X10_isGood rfl (by decide +kernel) rfl rfl (by decide) (by decide) rfl rfl (Nat.le_of_ble_eq_true rfl) dX10_readsLine_180) (fun r23 _ h => ?_)
              refine j_if_eq G 190 dX10_readsLine_183 (by decide) (fun c24 => ?_) (fun c24 => ?_)
              · have h := h.1 c24
                exact m_X10_readsLine_p190 G hW a0 k0 I18 J19 h
              · have h := h.2 c24
                refine j_aload_n G 0 0 dX10_readsLine_186 rfl rfl ?_
                refine j_cv (rn_V G hW (ci := 11) (n := 0) (As := []) (rest := []) (c_X10_readsInstruction K hW l a0 k0 I18 J19 B _ h) k0 (by decide) rfl ml_X10_431 im_X10_readsInstruction se_X10_readsInstruction in_X10 co_X10_readsInstruction rfl (by decide +kernel) rfl rfl (by decide) (by decide) rfl rfl (Nat.le_of_ble_eq_true rfl) dX10_readsLine_187) (fun ⟨I27, J28⟩ h => ?_)
                exact m_X10_readsLine_p190 G hW a0 k0 I27 J28 h
            · have h := h.2 c22
              refine j_aload_n G 0 0 dX10_readsLine_175 rfl rfl ?_
              refine j_cv (rn_V G hW (ci := 11) (n := 0) (As := []) (rest := []) (c_X10_reads K hW l a0 k0 I18 J19 B _ h) k0 (by decide) rfl ml_X10_428 im_X10_reads se_X10_reads in_X10 co_X10_reads rfl (by decide +kernel) rfl rfl (by decide) (by decide) rfl rfl (Nat.le_of_ble_eq_true rfl) dX10_readsLine_176) (fun ⟨I29, J30⟩ h => ?_)
              refine j_aload_n G 0 0 dX10_readsLine_179 rfl rfl ?_
              refine j_ci (rn_V G hW (ci := 11) (n := 0) (As := []) (rest := []) (c_X10_isGood K hW l a0 k0 I29 J30 B _ h) k0 (by decide) rfl ml_X10_333 im_X10_isGood se_X10_isGood in_X10 co_X10_isGood rfl (by decide +kernel) rfl rfl (by decide) (by decide) rfl rfl (Nat.le_of_ble_eq_true rfl) dX10_readsLine_180) (fun r31 _ h => ?_)
              refine j_if_eq G 190 dX10_readsLine_183 (by decide) (fun c32 => ?_) (fun c32 => ?_)
              · have h := h.1 c32
                exact m_X10_readsLine_p190 G hW a0 k0 I29 J30 h
              · have h := h.2 c32
                refine j_aload_n G 0 0 dX10_readsLine_186 rfl rfl ?_
                refine j_cv (rn_V G hW (ci := 11) (n := 0) (As := []) (rest := []) (c_X10_readsInstruction K hW l a0 k0 I29 J30 B _ h) k0 (by decide) rfl ml_X10_431 im_X10_readsInstruction se_X10_readsInstruction in_X10 co_X10_readsInstruction rfl (by decide +kernel) rfl rfl (by decide) (by decide) rfl rfl (Nat.le_of_ble_eq_true rfl) dX10_readsLine_187) (fun ⟨I33, J34⟩ h => ?_)
                exact m_X10_readsLine_p190 G hW a0 k0 I33 J34 h
          · have h := h.2 c20
            refine j_aload_n G 0 0 dX10_readsLine_148 rfl rfl ?_
            have kk35 : kG K (a0 + 1) = (20, 4905) := wk_12_1 hW k0
            refine j_get G hW 11 0 4 (.ref (a0 + 1)) k0 (by decide) rfl (by decide) rfl lay_X10 fl_X10_7 rfl rfl dX10_readsLine_149 ?_
            refine j_sipush G (1079 : Int32) dX10_readsLine_152 (by decide) ?_
            refine j_dup2 G rfl rfl dX10_readsLine_155 ?_
            refine j_iald G hW kk35 (vpc rfl) dX10_readsLine_156 ?_
            refine j_iconst G (1 : Int32) dX10_readsLine_157 (by decide) ?_
            refine j_aload_n G 0 0 dX10_readsLine_158 rfl rfl ?_
            refine j_ci (rn_V G hW (ci := 11) (n := 0) (As := []) (rest := [.int (1 : Int32), .int (I18 (a0 + 1) (ix (1079 : Int32))), .int (1079 : Int32), .ref (a0 + 1)]) (c_X10_letterTaken K hW l a0 k0 I18 J19 B _ h) k0 (by decide) rfl ml_X10_410 im_X10_letterTaken se_X10_letterTaken in_X10 co_X10_letterTaken rfl (by decide +kernel) rfl rfl (by decide) (by decide) rfl rfl (Nat.le_of_ble_eq_true rfl) dX10_readsLine_159) (fun r36 ⟨I37, J38⟩ h => ?_)
            refine j_ishl G dX10_readsLine_162 ?_
            refine j_ior G dX10_readsLine_163 ?_
            refine j_iast G hW kk35 (vpc rfl) dX10_readsLine_164 ?_
            refine j_mI (fun I39 eI39 => ?_)
            have h := h I39 eI39
            refine j_goto G 190 dX10_readsLine_165 (by decide) ?_
            exact m_X10_readsLine_p190 G hW a0 k0 I39 J38 h
        · have h := h.2 c16
          refine j_aload_n G 0 0 dX10_readsLine_112 rfl rfl ?_
          refine j_ci (rn_V G hW (ci := 11) (n := 0) (As := []) (rest := []) (c_X10_letterTaken K hW l a0 k0 I14 J15 B _ h) k0 (by decide) rfl ml_X10_410 im_X10_letterTaken se_X10_letterTaken in_X10 co_X10_letterTaken rfl (by decide +kernel) rfl rfl (by decide) (by decide) rfl rfl (Nat.le_of_ble_eq_true rfl) dX10_readsLine_113) (fun r40 ⟨I41, J42⟩ h => ?_)
          refine j_istore_n G 1 [(1, .int r40), (0, .ref a0)] dX10_readsLine_116 rfl (by decide) rfl ?_
          refine j_aload_n G 1 0 dX10_readsLine_117 rfl rfl ?_
          have kk43 : kG K (a0 + 1) = (20, 4905) := wk_12_1 hW k0
          refine j_get G hW 11 0 4 (.ref (a0 + 1)) k0 (by decide) rfl (by decide) rfl lay_X10 fl_X10_7 rfl rfl dX10_readsLine_118 ?_
          refine j_sipush G (1071 : Int32) dX10_readsLine_121 (by decide) ?_
          refine j_iload_n G 0 1 dX10_readsLine_124 rfl rfl ?_
          refine j_iadd G dX10_readsLine_125 ?_
          refine j_aload_n G 1 0 dX10_readsLine_126 rfl rfl ?_
          refine j_iconst G (0 : Int32) dX10_readsLine_127 (by decide) ?_
          refine j_sipush G (999 : Int32) dX10_readsLine_128 (by decide) ?_
          refine j_ci (rn_V G hW (ci := 11) (n := 2) (As := [.int (0 : Int32), .int (999 : Int32)]) (rest := [.int ((1071 : Int32) + r40), .ref (a0 + 1)]) (c_X10_numeral K hW l a0 (0 : Int32) (999 : Int32) k0 I41 J42 B _ h) k0 (by decide) rfl ml_X10_413 im_X10_numeral se_X10_numeral in_X10 co_X10_numeral rfl (by decide +kernel) rfl rfl (by decide) (by decide) rfl rfl (Nat.le_of_ble_eq_true rfl) dX10_readsLine_131) (fun r44 ⟨I45, J46⟩ h => ?_)
          obtain ⟨b47, h⟩ := h
          refine j_iast G hW kk43 b47 dX10_readsLine_134 ?_
          refine j_mI (fun I48 eI48 => ?_)
          have h := h I48 eI48
          refine j_goto G 190 dX10_readsLine_135 (by decide) ?_
          exact Jg.sub [1] rfl (m_X10_readsLine_p190 G hW a0 k0 I48 J46 h)
      · have h := h.2 c12
        refine j_aload_n G 0 0 dX10_readsLine_73 rfl rfl ?_
        refine j_iconst G (0 : Int32) dX10_readsLine_74 (by decide) ?_
        refine j_bipush G (31 : Int32) dX10_readsLine_75 (by decide) ?_
        refine j_ci (rn_V G hW (ci := 11) (n := 2) (As := [.int (0 : Int32), .int (31 : Int32)]) (rest := []) (c_X10_numeral K hW l a0 (0 : Int32) (31 : Int32) k0 I10 J11 B _ h) k0 (by decide) rfl ml_X10_413 im_X10_numeral se_X10_numeral in_X10 co_X10_numeral rfl (by decide +kernel) rfl rfl (by decide) (by decide) rfl rfl (Nat.le_of_ble_eq_true rfl) dX10_readsLine_77) (fun r49 ⟨I50, J51⟩ h => ?_)
        refine j_istore_n G 1 [(1, .int r49), (0, .ref a0)] dX10_readsLine_80 rfl (by decide) rfl ?_
        refine j_aload_n G 1 0 dX10_readsLine_81 rfl rfl ?_
        have kk52 : kG K (a0 + 1) = (20, 4905) := wk_12_1 hW k0
        refine j_get G hW 11 0 4 (.ref (a0 + 1)) k0 (by decide) rfl (by decide) rfl lay_X10 fl_X10_7 rfl rfl dX10_readsLine_82 ?_
        refine j_sipush G (1039 : Int32) dX10_readsLine_85 (by decide) ?_
        refine j_iload_n G 0 1 dX10_readsLine_88 rfl rfl ?_
        refine j_iadd G dX10_readsLine_89 ?_
        refine j_aload_n G 1 0 dX10_readsLine_90 rfl rfl ?_
        refine j_iconst G (0 : Int32) dX10_readsLine_91 (by decide) ?_
        refine j_sipush G (999 : Int32) dX10_readsLine_92 (by decide) ?_
        refine j_ci (rn_V G hW (ci := 11) (n := 2) (As := [.int (0 : Int32), .int (999 : Int32)]) (rest := [.int ((1039 : Int32) + r49), .ref (a0 + 1)]) (c_X10_numeral K hW l a0 (0 : Int32) (999 : Int32) k0 I50 J51 B _ h) k0 (by decide) rfl ml_X10_413 im_X10_numeral se_X10_numeral in_X10 co_X10_numeral rfl (by decide +kernel) rfl rfl (by decide) (by decide) rfl rfl (Nat.le_of_ble_eq_true rfl) dX10_readsLine_95) (fun r53 ⟨I54, J55⟩ h => ?_)
        obtain ⟨b56, h⟩ := h
        refine j_iast G hW kk52 b56 dX10_readsLine_98 ?_
        refine j_mI (fun I57 eI57 => ?_)
        have h := h I57 eI57
        refine j_goto G 190 dX10_readsLine_99 (by decide) ?_
        exact Jg.sub [1] rfl (m_X10_readsLine_p190 G hW a0 k0 I57 J55 h)
    · have h := h.2 c8
      refine j_aload_n G 0 0 dX10_readsLine_38 rfl rfl ?_
      refine j_ci (rn_V G hW (ci := 11) (n := 0) (As := []) (rest := []) (c_X10_queueTaken K hW l a0 k0 I6 J7 B _ h) k0 (by decide) rfl ml_X10_425 im_X10_queueTaken se_X10_queueTaken in_X10 co_X10_queueTaken rfl (by decide +kernel) rfl rfl (by decide) (by decide) rfl rfl (Nat.le_of_ble_eq_true rfl) dX10_readsLine_39) (fun r58 ⟨I59, J60⟩ h => ?_)
      refine j_istore_n G 1 [(1, .int r58), (0, .ref a0)] dX10_readsLine_42 rfl (by decide) rfl ?_
      refine j_aload_n G 1 0 dX10_readsLine_43 rfl rfl ?_
      have kk61 : kG K (a0 + 1) = (20, 4905) := wk_12_1 hW k0
      refine j_get G hW 11 0 4 (.ref (a0 + 1)) k0 (by decide) rfl (by decide) rfl lay_X10 fl_X10_7 rfl rfl dX10_readsLine_44 ?_
      refine j_sipush G (1033 : Int32) dX10_readsLine_47 (by decide) ?_
      refine j_iload_n G 0 1 dX10_readsLine_50 rfl rfl ?_
      refine j_iadd G dX10_readsLine_51 ?_
      refine j_aload_n G 1 0 dX10_readsLine_52 rfl rfl ?_
      refine j_iconst G (1 : Int32) dX10_readsLine_53 (by decide) ?_
      refine j_bipush G (6 : Int32) dX10_readsLine_54 (by decide) ?_
      refine j_ci (rn_V G hW (ci := 11) (n := 2) (As := [.int (1 : Int32), .int (6 : Int32)]) (rest := [.int ((1033 : Int32) + r58), .ref (a0 + 1)]) (c_X10_numeral K hW l a0 (1 : Int32) (6 : Int32) k0 I59 J60 B _ h) k0 (by decide) rfl ml_X10_413 im_X10_numeral se_X10_numeral in_X10 co_X10_numeral rfl (by decide +kernel) rfl rfl (by decide) (by decide) rfl rfl (Nat.le_of_ble_eq_true rfl) dX10_readsLine_56) (fun r62 ⟨I63, J64⟩ h => ?_)
      obtain ⟨b65, h⟩ := h
      refine j_iast G hW kk61 b65 dX10_readsLine_59 ?_
      refine j_mI (fun I66 eI66 => ?_)
      have h := h I66 eI66
      refine j_goto G 190 dX10_readsLine_60 (by decide) ?_
      exact Jg.sub [1] rfl (m_X10_readsLine_p190 G hW a0 k0 I66 J64 h)
  · have h := h.2 c4
    refine j_aload_n G 0 0 dX10_readsLine_10 rfl rfl ?_
    have kk67 : kG K (a0 + 1) = (20, 4905) := wk_12_1 hW k0
    refine j_get G hW 11 0 4 (.ref (a0 + 1)) k0 (by decide) rfl (by decide) rfl lay_X10 fl_X10_7 rfl rfl dX10_readsLine_11 ?_
    refine j_sipush G (1032 : Int32) dX10_readsLine_14 (by decide) ?_
    refine j_aload_n G 0 0 dX10_readsLine_17 rfl rfl ?_
    refine j_iconst G (1 : Int32) dX10_readsLine_18 (by decide) ?_
    refine j_bipush G (9 : Int32) dX10_readsLine_19 (by decide) ?_
    refine j_ci (rn_V G hW (ci := 11) (n := 2) (As := [.int (1 : Int32), .int (9 : Int32)]) (rest := [.int (1032 : Int32), .ref (a0 + 1)]) (c_X10_numeral K hW l a0 (1 : Int32) (9 : Int32) k0 I2 J3 B _ h) k0 (by decide) rfl ml_X10_413 im_X10_numeral se_X10_numeral in_X10 co_X10_numeral rfl (by decide +kernel) rfl rfl (by decide) (by decide) rfl rfl (Nat.le_of_ble_eq_true rfl) dX10_readsLine_21) (fun r68 ⟨I69, J70⟩ h => ?_)
    refine j_iast G hW kk67 (vpc rfl) dX10_readsLine_24 ?_
    refine j_mI (fun I71 eI71 => ?_)
    have h := h I71 eI71
    refine j_goto G 190 dX10_readsLine_25 (by decide) ?_
    exact m_X10_readsLine_p190 G hW a0 k0 I71 J70 h
abbrev rm_X10_finds : Room := { frames := 1, cells := 0, slots := 0, locals := 23 }
def w_X10_finds_l2 (a0 : Nat) (J : MJ) (ke81 : Int32 → MI → Prop) (Q : MI → Prop) (rec : Int32 → MI → Prop) (x1 : Int32) (I : MI) : Prop :=
(((I a0 24) ≤ x1 → ke81 x1 I) ∧
(¬ (I a0 24) ≤ x1 → (vp_in x1 25 ∧
(w_X10_nameBy a0 (J (a0 + 6) (ix x1)) I J (fun r4 =>
((0 ≤ r4 → (vp_in x1 25 ∧
(((24 : Int32) ≤ (I (a0 + 8) (ix x1)) → rec (x1 + 1) I) ∧
(¬ (24 : Int32) ≤ (I (a0 + 8) (ix x1)) → (vp_in x1 25 ∧
(vp_in r4 90 ∧
(vp_in (((1082 : Int32) + ((5 : Int32) * (I (a0 + 8) (ix x1)))) + (4 : Int32)) 4905 ∧
(∀ I14, I14 = ui I (a0 + 1) (ix (((1082 : Int32) + ((5 : Int32) * (I (a0 + 8) (ix x1)))) + (4 : Int32))) (I (a0 + 7) (ix r4)) →
rec (x1 + 1) I14)))))))) ∧
(¬ 0 ≤ r4 → (vp_in x1 25 ∧
(w_X10_alsoWrong a0 (5 : Int32) (I (a0 + 9) (ix x1)) I (fun I17 =>
rec (x1 + 1) I17))))))))))
set_option maxHeartbeats 4000000 in
set_option maxRecDepth 100000 in
theorem m_X10_finds_l2 {K : Kx} {l : Launch} {m : MethodId} {H0 : Heap} {Q : MI → Prop} {w : HW} {J : MJ} {B : MR} (G : Gd l rm_X10_finds K m RX10 cX10_finds 3 H0 none (va_Qv (S := MI) Q (fun u t => HP K (u, J, B) t.heap) (AA K)) w) (hW : WFK K) (a0 : Nat) (x1 : Int32) (ka0 : (kG K a0).1 = 12) (I : MI) (ke81 : Int32 → MI → Prop) (hke81 : ∀ (x1 : Int32) (I : MI), ke81 x1 I → Jg K m 3 H0 w 81 [(0, .ref a0)] [] (I, J, B)) (h : Lp2 (w_X10_finds_l2 a0 J ke81 Q) x1 I) : Jg K m 3 H0 w 2 [(0, .ref a0), (1, .int x1)] [] (I, J, B) := by
  obtain ⟨n, h⟩ := h
  refine lpN2_ind (P := (fun (x1 : Int32) (I : MI) => Jg K m 3 H0 w 2 [(0, .ref a0), (1, .int x1)] [] (I, J, B))) (fun rec hrec x1 I h => ?_) n x1 I h
  unfold w_X10_finds_l2 at h
  refine j_iload_n G 1 1 dX10_finds_2 rfl rfl ?_
  refine j_aload_n G 0 0 dX10_finds_3 rfl rfl ?_
  refine j_get G hW 11 24 0 (.int (I a0 24)) ka0 (by decide) rfl (by decide) rfl lay_X10 fl_X10_404 rfl rfl dX10_finds_4 ?_
  refine j_icmp_ge G 81 dX10_finds_7 (by decide) (fun c1 => ?_) (fun c1 => ?_)
  · have h := h.1 c1
    exact Jg.sub [0] rfl (hke81 x1 I h)
  · have h := h.2 c1
    refine j_aload_n G 0 0 dX10_finds_10 rfl rfl ?_
    refine j_aload_n G 0 0 dX10_finds_11 rfl rfl ?_
    have kk2 : kG K (a0 + 6) = (22, 25) := wk_12_6 hW ka0
    refine j_get G hW 11 19 9 (.ref (a0 + 6)) ka0 (by decide) rfl (by decide) rfl lay_X10 fl_X10_31 rfl rfl dX10_finds_12 ?_
    refine j_iload_n G 1 1 dX10_finds_15 rfl rfl ?_
    obtain ⟨b3, h⟩ := h
    refine j_lald G hW kk2 b3 dX10_finds_16 ?_
    refine j_ci (rn_V G hW (ci := 11) (n := 1) (As := [.long (J (a0 + 6) (ix x1))]) (rest := []) (c_X10_nameBy K hW l a0 (J (a0 + 6) (ix x1)) ka0 I J B _ h) ka0 (by decide) rfl ml_X10_394 im_X10_nameBy se_X10_nameBy in_X10 co_X10_nameBy rfl (by decide +kernel) rfl rfl (by decide) (by decide) rfl rfl (Nat.le_of_ble_eq_true rfl) dX10_finds_17) (fun r4 _ h => ?_)
    refine j_istore_n G 2 [(2, .int r4), (0, .ref a0), (1, .int x1)] dX10_finds_20 rfl (by decide) rfl ?_
    refine j_iload_n G 0 2 dX10_finds_21 rfl rfl ?_
    refine j_if_ge G 39 dX10_finds_22 (by decide) (fun c5 => ?_) (fun c5 => ?_)
    · have h := h.1 c5
      refine j_aload_n G 1 0 dX10_finds_39 rfl rfl ?_
      have kk6 : kG K (a0 + 8) = (20, 25) := wk_12_8 hW ka0
      refine j_get G hW 11 21 11 (.ref (a0 + 8)) ka0 (by decide) rfl (by decide) rfl lay_X10 fl_X10_37 rfl rfl dX10_finds_40 ?_
      refine j_iload_n G 2 1 dX10_finds_43 rfl rfl ?_
      obtain ⟨b7, h⟩ := h
      refine j_iald G hW kk6 b7 dX10_finds_44 ?_
      refine j_bipush G (24 : Int32) dX10_finds_45 (by decide) ?_
      refine j_icmp_ge G 75 dX10_finds_47 (by decide) (fun c8 => ?_) (fun c8 => ?_)
      · have h := h.1 c8
        refine j_iinc G 2 (x1 + 1) [(1, .int (x1 + 1)), (2, .int r4), (0, .ref a0)] dX10_finds_75 rfl rfl (by decide) rfl ?_
        refine j_goto G 2 dX10_finds_78 (by decide) ?_
        exact Jg.sub [2, 0] rfl (hrec (x1 + 1) I h)
      · have h := h.2 c8
        refine j_aload_n G 1 0 dX10_finds_50 rfl rfl ?_
        have kk9 : kG K (a0 + 1) = (20, 4905) := wk_12_1 hW ka0
        refine j_get G hW 11 0 4 (.ref (a0 + 1)) ka0 (by decide) rfl (by decide) rfl lay_X10 fl_X10_7 rfl rfl dX10_finds_51 ?_
        refine j_sipush G (1082 : Int32) dX10_finds_54 (by decide) ?_
        refine j_iconst G (5 : Int32) dX10_finds_57 (by decide) ?_
        refine j_aload_n G 1 0 dX10_finds_58 rfl rfl ?_
        refine j_get G hW 11 21 11 (.ref (a0 + 8)) ka0 (by decide) rfl (by decide) rfl lay_X10 fl_X10_37 rfl rfl dX10_finds_59 ?_
        refine j_iload_n G 2 1 dX10_finds_62 rfl rfl ?_
        obtain ⟨b10, h⟩ := h
        refine j_iald G hW kk6 b10 dX10_finds_63 ?_
        refine j_imul G dX10_finds_64 ?_
        refine j_iadd G dX10_finds_65 ?_
        refine j_iconst G (4 : Int32) dX10_finds_66 (by decide) ?_
        refine j_iadd G dX10_finds_67 ?_
        refine j_aload_n G 1 0 dX10_finds_68 rfl rfl ?_
        have kk11 : kG K (a0 + 7) = (20, 90) := wk_12_7 hW ka0
        refine j_get G hW 11 20 10 (.ref (a0 + 7)) ka0 (by decide) rfl (by decide) rfl lay_X10 fl_X10_34 rfl rfl dX10_finds_69 ?_
        refine j_iload_n G 0 2 dX10_finds_72 rfl rfl ?_
        obtain ⟨b12, h⟩ := h
        refine j_iald G hW kk11 b12 dX10_finds_73 ?_
        obtain ⟨b13, h⟩ := h
        refine j_iast G hW kk9 b13 dX10_finds_74 ?_
        refine j_mI (fun I14 eI14 => ?_)
        have h := h I14 eI14
        refine j_iinc G 2 (x1 + 1) [(1, .int (x1 + 1)), (2, .int r4), (0, .ref a0)] dX10_finds_75 rfl rfl (by decide) rfl ?_
        refine j_goto G 2 dX10_finds_78 (by decide) ?_
        exact Jg.sub [2, 0] rfl (hrec (x1 + 1) I14 h)
    · have h := h.2 c5
      refine j_aload_n G 1 0 dX10_finds_25 rfl rfl ?_
      refine j_iconst G (5 : Int32) dX10_finds_26 (by decide) ?_
      refine j_aload_n G 1 0 dX10_finds_27 rfl rfl ?_
      have kk15 : kG K (a0 + 9) = (20, 25) := wk_12_9 hW ka0
      refine j_get G hW 11 22 12 (.ref (a0 + 9)) ka0 (by decide) rfl (by decide) rfl lay_X10 fl_X10_40 rfl rfl dX10_finds_28 ?_
      refine j_iload_n G 2 1 dX10_finds_31 rfl rfl ?_
      obtain ⟨b16, h⟩ := h
      refine j_iald G hW kk15 b16 dX10_finds_32 ?_
      refine j_cv (rn_V G hW (ci := 11) (n := 2) (As := [.int (5 : Int32), .int (I (a0 + 9) (ix x1))]) (rest := []) (c_X10_alsoWrong K hW l a0 (5 : Int32) (I (a0 + 9) (ix x1)) ka0 I J B _ h) ka0 (by decide) rfl ml_X10_347 im_X10_alsoWrong se_X10_alsoWrong in_X10 co_X10_alsoWrong rfl (by decide +kernel) rfl rfl (by decide) (by decide) rfl rfl (Nat.le_of_ble_eq_true rfl) dX10_finds_33) (fun I17 h => ?_)
      refine j_goto G 75 dX10_finds_36 (by decide) ?_
      refine j_iinc G 2 (x1 + 1) [(1, .int (x1 + 1)), (2, .int r4), (0, .ref a0)] dX10_finds_75 rfl rfl (by decide) rfl ?_
      refine j_goto G 2 dX10_finds_78 (by decide) ?_
      exact Jg.sub [2, 0] rfl (hrec (x1 + 1) I17 h)
def w_X10_finds (a0 : Nat) (I : MI) (J : MJ) (Q : MI → Prop) : Prop :=
Lp2 (w_X10_finds_l2 a0 J (fun x1_18 I19 => (∀ I20, I20 = ui I19 a0 4 (I19 a0 15) →
(((I20 a0 15) ≤ 0 → (∀ I22, I22 = ui I20 a0 5 (-1 : Int32) →
Q I22)) ∧
(¬ (I20 a0 15) ≤ 0 → (∀ I23, I23 = ui I20 a0 5 (I20 a0 14) →
Q I23))))) Q) (0 : Int32) I
set_option maxHeartbeats 4000000 in
set_option maxRecDepth 100000 in
theorem c_X10_finds (K : Kx) (hW : WFK K) (l : Launch) (a0 : Nat) (k0 : (kG K a0).1 = 12) (I : MI) (J : MJ) (B : MR) (Q : MI → Prop) (h : w_X10_finds a0 I J Q) : Con K l yX10_finds (wsT yX10_finds cX10_finds 3 none) rm_X10_finds [.ref a0] (I, J, B) (va_Qv (S := MI) Q (fun u t => HP K (u, J, B) t.heap) (AA K)) := by
  refine Con.ofJ RX10 rfl (by decide) (Nat.le_of_ble_eq_true rfl) (fun m H0 w G => ?_)
  unfold w_X10_finds at h
  show Jg K m 3 H0 w 0 [(0, .ref a0)] [] (I, J, B)
  refine j_iconst G (0 : Int32) dX10_finds_0 (by decide) ?_
  refine j_istore_n G 1 [(1, .int (0 : Int32)), (0, .ref a0)] dX10_finds_1 rfl (by decide) rfl ?_
  refine Jg.sub [1, 0] rfl (m_X10_finds_l2 G hW a0 (0 : Int32) k0 I _ ?_ h)
  intro x1_18 I19 h
  refine j_aload_n G 0 0 dX10_finds_81 rfl rfl ?_
  refine j_aload_n G 0 0 dX10_finds_82 rfl rfl ?_
  refine j_get G hW 11 15 0 (.int (I19 a0 15)) k0 (by decide) rfl (by decide) rfl lay_X10 fl_X10_327 rfl rfl dX10_finds_83 ?_
  refine j_put G hW 11 4 tyX10 (tyX10 4) tyX10_ok nmX10 k0 (by decide) rfl (by decide) rfl lay_X10 fl_X10_227 rfl rfl (tyX10_ok 4 (by decide)) rfl rfl dX10_finds_86 ?_
  refine j_mI (fun I20 eI20 => ?_)
  have h := h I20 eI20
  refine j_aload_n G 0 0 dX10_finds_89 rfl rfl ?_
  refine j_aload_n G 0 0 dX10_finds_90 rfl rfl ?_
  refine j_get G hW 11 15 0 (.int (I20 a0 15)) k0 (by decide) rfl (by decide) rfl lay_X10 fl_X10_327 rfl rfl dX10_finds_91 ?_
  refine j_if_le G 104 dX10_finds_94 (by decide) (fun c21 => ?_) (fun c21 => ?_)
  · have h := h.1 c21
    refine j_iconst G (-1 : Int32) dX10_finds_104 (by decide) ?_
    refine j_put G hW 11 5 tyX10 (tyX10 5) tyX10_ok nmX10 k0 (by decide) rfl (by decide) rfl lay_X10 fl_X10_20 rfl rfl (tyX10_ok 5 (by decide)) rfl rfl dX10_finds_105 ?_
    refine j_mI (fun I22 eI22 => ?_)
    have h := h I22 eI22
    exact j_retv G I22 dX10_finds_108 h rfl
  · have h := h.2 c21
    refine j_aload_n G 0 0 dX10_finds_97 rfl rfl ?_
    refine j_get G hW 11 14 0 (.int (I20 a0 14)) k0 (by decide) rfl (by decide) rfl lay_X10 fl_X10_330 rfl rfl dX10_finds_98 ?_
    refine j_goto G 105 dX10_finds_101 (by decide) ?_
    refine j_put G hW 11 5 tyX10 (tyX10 5) tyX10_ok nmX10 k0 (by decide) rfl (by decide) rfl lay_X10 fl_X10_20 rfl rfl (tyX10_ok 5 (by decide)) rfl rfl dX10_finds_105 ?_
    refine j_mI (fun I23 eI23 => ?_)
    have h := h I23 eI23
    exact j_retv G I23 dX10_finds_108 h rfl
abbrev rm_X10_program : Room := { frames := 5, cells := 0, slots := 0, locals := 111 }
def w_X10_program_l54 (a0 : Nat)  (ke75 : MI → MJ → Prop) (Q : Int32 → MI → MJ → Prop) (rec : MI → MJ → Prop) (I : MI) (J : MJ) : Prop :=
(w_X10_isGood a0 I (fun r12 =>
((r12 = 0 → ke75 I J) ∧
(¬ r12 = 0 → (((I a0 12) = 0 → ke75 I J) ∧
(¬ (I a0 12) = 0 → (w_X10_readsLine a0 I J (fun I15 J16 =>
rec I15 J16))))))))
set_option maxHeartbeats 4000000 in
set_option maxRecDepth 100000 in
theorem m_X10_program_l54 {K : Kx} {l : Launch} {m : MethodId} {H0 : Heap} {Q : Int32 → MI → MJ → Prop} {w : HW} {B : MR} (G : Gd l rm_X10_program K m RX10 cX10_program 1 H0 (some .int) (va_Qi (S := (MI × MJ)) (fun r u => Q r u.1 u.2) (fun u t => HP K (u.1, u.2, B) t.heap) (AA K)) w) (hW : WFK K) (a0 : Nat) (ka0 : (kG K a0).1 = 12) (I : MI) (J : MJ) (ke75 : MI → MJ → Prop) (hke75 : ∀ (I : MI) (J : MJ), ke75 I J → Jg K m 1 H0 w 75 [(0, .ref a0)] [] (I, J, B)) (h : Lp2 (w_X10_program_l54 a0 ke75 Q) I J) : Jg K m 1 H0 w 54 [(0, .ref a0)] [] (I, J, B) := by
  obtain ⟨n, h⟩ := h
  refine lpN2_ind (P := (fun (I : MI) (J : MJ) => Jg K m 1 H0 w 54 [(0, .ref a0)] [] (I, J, B))) (fun rec hrec I J h => ?_) n I J h
  unfold w_X10_program_l54 at h
  refine j_aload_n G 0 0 dX10_program_54 rfl rfl ?_
  refine j_ci (rn_V G hW (ci := 11) (n := 0) (As := []) (rest := []) (c_X10_isGood K hW l a0 ka0 I J B _ h) ka0 (by decide) rfl ml_X10_333 im_X10_isGood se_X10_isGood in_X10 co_X10_isGood rfl (by decide +kernel) rfl rfl (by decide) (by decide) rfl rfl (Nat.le_of_ble_eq_true rfl) dX10_program_55) (fun r12 _ h => ?_)
  refine j_if_eq G 75 dX10_program_58 (by decide) (fun c13 => ?_) (fun c13 => ?_)
  · have h := h.1 c13
    exact hke75 I J h
  · have h := h.2 c13
    refine j_aload_n G 0 0 dX10_program_61 rfl rfl ?_
    refine j_get G hW 11 12 0 (.int (I a0 12)) ka0 (by decide) rfl (by decide) rfl lay_X10 fl_X10_314 rfl rfl dX10_program_62 ?_
    refine j_if_eq G 75 dX10_program_65 (by decide) (fun c14 => ?_) (fun c14 => ?_)
    · have h := h.1 c14
      exact hke75 I J h
    · have h := h.2 c14
      refine j_aload_n G 0 0 dX10_program_68 rfl rfl ?_
      refine j_cv (rn_V G hW (ci := 11) (n := 0) (As := []) (rest := []) (c_X10_readsLine K hW l a0 ka0 I J B _ h) ka0 (by decide) rfl ml_X10_434 im_X10_readsLine se_X10_readsLine in_X10 co_X10_readsLine rfl (by decide +kernel) rfl rfl (by decide) (by decide) rfl rfl (Nat.le_of_ble_eq_true rfl) dX10_program_69) (fun ⟨I15, J16⟩ h => ?_)
      refine j_goto G 54 dX10_program_72 (by decide) ?_
      exact hrec I15 J16 h
def w_X10_program_p86 (a0 : Nat)  (I : MI) (J : MJ)  (Q : Int32 → MI → MJ → Prop) : Prop :=
(w_X10_isGood a0 I (fun r21 =>
((¬ r21 = 0 → (w_X10_copies a0 (1032 : Int32) (0 : Int32) I (fun I23 =>
(w_X10_starts a0 (0 : Int32) I23 (fun I24 =>
Q (I24 (a0 + 1) (ix (48 : Int32))) I24 J))))) ∧
(r21 = 0 → Q (-1 : Int32) I J))))
set_option maxHeartbeats 4000000 in
set_option maxRecDepth 100000 in
theorem m_X10_program_p86 {K : Kx} {l : Launch} {m : MethodId} {H0 : Heap} {Q : Int32 → MI → MJ → Prop} {w : HW} {B : MR} (G : Gd l rm_X10_program K m RX10 cX10_program 1 H0 (some .int) (va_Qi (S := (MI × MJ)) (fun r u => Q r u.1 u.2) (fun u t => HP K (u.1, u.2, B) t.heap) (AA K)) w) (hW : WFK K) (a0 : Nat)  (ka0 : (kG K a0).1 = 12)  (I : MI) (J : MJ)   (h : w_X10_program_p86 a0 I J Q) : Jg K m 1 H0 w 86 [(0, .ref a0)] [] (I, J, B) := by
  unfold w_X10_program_p86 at h
  refine j_aload_n G 0 0 dX10_program_86 rfl rfl ?_
  refine j_ci (rn_V G hW (ci := 11) (n := 0) (As := []) (rest := []) (c_X10_isGood K hW l a0 ka0 I J B _ h) ka0 (by decide) rfl ml_X10_333 im_X10_isGood se_X10_isGood in_X10 co_X10_isGood rfl (by decide +kernel) rfl rfl (by decide) (by decide) rfl rfl (Nat.le_of_ble_eq_true rfl) dX10_program_87) (fun r21 _ h => ?_)
  refine j_if_ne G 95 dX10_program_90 (by decide) (fun c22 => ?_) (fun c22 => ?_)
  · have h := h.1 c22
    refine j_aload_n G 0 0 dX10_program_95 rfl rfl ?_
    refine j_sipush G (1032 : Int32) dX10_program_96 (by decide) ?_
    refine j_iconst G (0 : Int32) dX10_program_99 (by decide) ?_
    refine j_cv (rn_V G hW (ci := 11) (n := 2) (As := [.int (1032 : Int32), .int (0 : Int32)]) (rest := []) (c_X10_copies K hW l a0 (1032 : Int32) (0 : Int32) ka0 I J B _ h) ka0 (by decide) rfl ml_X10_177 im_X10_copies se_X10_copies in_X10 co_X10_copies rfl (by decide +kernel) rfl rfl (by decide) (by decide) rfl rfl (Nat.le_of_ble_eq_true rfl) dX10_program_100) (fun I23 h => ?_)
    refine j_aload_n G 0 0 dX10_program_103 rfl rfl ?_
    refine j_iconst G (0 : Int32) dX10_program_104 (by decide) ?_
    refine j_cv (rn_V G hW (ci := 11) (n := 1) (As := [.int (0 : Int32)]) (rest := []) (c_X10_starts K hW l a0 (0 : Int32) ka0 I23 J B _ h) ka0 (by decide) rfl ml_X10_47 im_X10_starts se_X10_starts in_X10 co_X10_starts rfl (by decide +kernel) rfl rfl (by decide) (by decide) rfl rfl (Nat.le_of_ble_eq_true rfl) dX10_program_105) (fun I24 h => ?_)
    refine j_aload_n G 0 0 dX10_program_108 rfl rfl ?_
    have kk25 : kG K (a0 + 1) = (20, 4905) := wk_12_1 hW ka0
    refine j_get G hW 11 0 4 (.ref (a0 + 1)) ka0 (by decide) rfl (by decide) rfl lay_X10 fl_X10_7 rfl rfl dX10_program_109 ?_
    refine j_bipush G (48 : Int32) dX10_program_112 (by decide) ?_
    refine j_iald G hW kk25 (vpc rfl) dX10_program_114 ?_
    exact j_reti G (I24, J) rfl dX10_program_115 h rfl
  · have h := h.2 c22
    refine j_iconst G (-1 : Int32) dX10_program_93 (by decide) ?_
    exact j_reti G (I, J) rfl dX10_program_94 h rfl
def w_X10_program (a0 : Nat) (I : MI) (J : MJ) (Q : Int32 → MI → MJ → Prop) : Prop :=
(∀ I1, I1 = ui I a0 10 (I a0 3) →
(∀ I2, I2 = ui I1 a0 3 (0 : Int32) →
(∀ I3, I3 = ui I2 a0 4 (0 : Int32) →
(∀ I4, I4 = ui I3 a0 5 (-1 : Int32) →
(∀ I5, I5 = ui I4 a0 15 (0 : Int32) →
(∀ I6, I6 = ui I5 a0 23 (0 : Int32) →
(∀ I7, I7 = ui I6 a0 24 (0 : Int32) →
(∀ I8, I8 = ui I7 a0 11 (0 : Int32) →
(w_X10_clears a0 (1032 : Int32) I8 (fun I9 =>
(w_X10_takesToken a0 I9 J (fun I10 J11 =>
Lp2 (w_X10_program_l54 a0 (fun I17 J18 => (w_X10_isGood a0 I17 (fun r19 =>
((r19 = 0 → w_X10_program_p86 a0 I17 J18 Q) ∧
(¬ r19 = 0 → (w_X10_finds a0 I17 J18 (fun I26 =>
w_X10_program_p86 a0 I26 J18 Q))))))) Q) I10 J11))))))))))))
set_option maxHeartbeats 4000000 in
set_option maxRecDepth 100000 in
theorem c_X10_program (K : Kx) (hW : WFK K) (l : Launch) (a0 : Nat) (k0 : (kG K a0).1 = 12) (I : MI) (J : MJ) (B : MR) (Q : Int32 → MI → MJ → Prop) (h : w_X10_program a0 I J Q) : Con K l yX10_program (wsT yX10_program cX10_program 1 (some .int)) rm_X10_program [.ref a0] (I, J, B) (va_Qi (S := (MI × MJ)) (fun r u => Q r u.1 u.2) (fun u t => HP K (u.1, u.2, B) t.heap) (AA K)) := by
  refine Con.ofJ RX10 rfl (by decide) (Nat.le_of_ble_eq_true rfl) (fun m H0 w G => ?_)
  unfold w_X10_program at h
  show Jg K m 1 H0 w 0 [(0, .ref a0)] [] (I, J, B)
  refine j_aload_n G 0 0 dX10_program_0 rfl rfl ?_
  refine j_aload_n G 0 0 dX10_program_1 rfl rfl ?_
  refine j_get G hW 11 3 0 (.int (I a0 3)) k0 (by decide) rfl (by decide) rfl lay_X10 fl_X10_174 rfl rfl dX10_program_2 ?_
  refine j_put G hW 11 10 tyX10 (tyX10 10) tyX10_ok nmX10 k0 (by decide) rfl (by decide) rfl lay_X10 fl_X10_298 rfl rfl (tyX10_ok 10 (by decide)) rfl rfl dX10_program_5 ?_
  refine j_mI (fun I1 eI1 => ?_)
  have h := h I1 eI1
  refine j_aload_n G 0 0 dX10_program_8 rfl rfl ?_
  refine j_iconst G (0 : Int32) dX10_program_9 (by decide) ?_
  refine j_put G hW 11 3 tyX10 (tyX10 3) tyX10_ok nmX10 k0 (by decide) rfl (by decide) rfl lay_X10 fl_X10_174 rfl rfl (tyX10_ok 3 (by decide)) rfl rfl dX10_program_10 ?_
  refine j_mI (fun I2 eI2 => ?_)
  have h := h I2 eI2
  refine j_aload_n G 0 0 dX10_program_13 rfl rfl ?_
  refine j_iconst G (0 : Int32) dX10_program_14 (by decide) ?_
  refine j_put G hW 11 4 tyX10 (tyX10 4) tyX10_ok nmX10 k0 (by decide) rfl (by decide) rfl lay_X10 fl_X10_227 rfl rfl (tyX10_ok 4 (by decide)) rfl rfl dX10_program_15 ?_
  refine j_mI (fun I3 eI3 => ?_)
  have h := h I3 eI3
  refine j_aload_n G 0 0 dX10_program_18 rfl rfl ?_
  refine j_iconst G (-1 : Int32) dX10_program_19 (by decide) ?_
  refine j_put G hW 11 5 tyX10 (tyX10 5) tyX10_ok nmX10 k0 (by decide) rfl (by decide) rfl lay_X10 fl_X10_20 rfl rfl (tyX10_ok 5 (by decide)) rfl rfl dX10_program_20 ?_
  refine j_mI (fun I4 eI4 => ?_)
  have h := h I4 eI4
  refine j_aload_n G 0 0 dX10_program_23 rfl rfl ?_
  refine j_iconst G (0 : Int32) dX10_program_24 (by decide) ?_
  refine j_put G hW 11 15 tyX10 (tyX10 15) tyX10_ok nmX10 k0 (by decide) rfl (by decide) rfl lay_X10 fl_X10_327 rfl rfl (tyX10_ok 15 (by decide)) rfl rfl dX10_program_25 ?_
  refine j_mI (fun I5 eI5 => ?_)
  have h := h I5 eI5
  refine j_aload_n G 0 0 dX10_program_28 rfl rfl ?_
  refine j_iconst G (0 : Int32) dX10_program_29 (by decide) ?_
  refine j_put G hW 11 23 tyX10 (tyX10 23) tyX10_ok nmX10 k0 (by decide) rfl (by decide) rfl lay_X10 fl_X10_391 rfl rfl (tyX10_ok 23 (by decide)) rfl rfl dX10_program_30 ?_
  refine j_mI (fun I6 eI6 => ?_)
  have h := h I6 eI6
  refine j_aload_n G 0 0 dX10_program_33 rfl rfl ?_
  refine j_iconst G (0 : Int32) dX10_program_34 (by decide) ?_
  refine j_put G hW 11 24 tyX10 (tyX10 24) tyX10_ok nmX10 k0 (by decide) rfl (by decide) rfl lay_X10 fl_X10_404 rfl rfl (tyX10_ok 24 (by decide)) rfl rfl dX10_program_35 ?_
  refine j_mI (fun I7 eI7 => ?_)
  have h := h I7 eI7
  refine j_aload_n G 0 0 dX10_program_38 rfl rfl ?_
  refine j_iconst G (0 : Int32) dX10_program_39 (by decide) ?_
  refine j_put G hW 11 11 tyX10 (tyX10 11) tyX10_ok nmX10 k0 (by decide) rfl (by decide) rfl lay_X10 fl_X10_301 rfl rfl (tyX10_ok 11 (by decide)) rfl rfl dX10_program_40 ?_
  refine j_mI (fun I8 eI8 => ?_)
  have h := h I8 eI8
  refine j_aload_n G 0 0 dX10_program_43 rfl rfl ?_
  refine j_sipush G (1032 : Int32) dX10_program_44 (by decide) ?_
  refine j_cv (rn_V G hW (ci := 11) (n := 1) (As := [.int (1032 : Int32)]) (rest := []) (c_X10_clears K hW l a0 (1032 : Int32) k0 I8 J B _ h) k0 (by decide) rfl ml_X10_43 im_X10_clears se_X10_clears in_X10 co_X10_clears rfl (by decide +kernel) rfl rfl (by decide) (by decide) rfl rfl (Nat.le_of_ble_eq_true rfl) dX10_program_47) (fun I9 h => ?_)
  refine j_aload_n G 0 0 dX10_program_50 rfl rfl ?_
  refine j_cv (rn_V G hW (ci := 11) (n := 0) (As := []) (rest := []) (c_X10_takesToken K hW l a0 k0 I9 J B _ h) k0 (by decide) rfl ml_X10_341 im_X10_takesToken se_X10_takesToken in_X10 co_X10_takesToken rfl (by decide +kernel) rfl rfl (by decide) (by decide) rfl rfl (Nat.le_of_ble_eq_true rfl) dX10_program_51) (fun ⟨I10, J11⟩ h => ?_)
  refine Jg.sub [0] rfl (m_X10_program_l54 G hW a0 k0 I10 J11 _ ?_ h)
  intro I17 J18 h
  refine j_aload_n G 0 0 dX10_program_75 rfl rfl ?_
  refine j_ci (rn_V G hW (ci := 11) (n := 0) (As := []) (rest := []) (c_X10_isGood K hW l a0 k0 I17 J18 B _ h) k0 (by decide) rfl ml_X10_333 im_X10_isGood se_X10_isGood in_X10 co_X10_isGood rfl (by decide +kernel) rfl rfl (by decide) (by decide) rfl rfl (Nat.le_of_ble_eq_true rfl) dX10_program_76) (fun r19 _ h => ?_)
  refine j_if_eq G 86 dX10_program_79 (by decide) (fun c20 => ?_) (fun c20 => ?_)
  · have h := h.1 c20
    exact m_X10_program_p86 G hW a0 k0 I17 J18 h
  · have h := h.2 c20
    refine j_aload_n G 0 0 dX10_program_82 rfl rfl ?_
    refine j_cv (rn_V G hW (ci := 11) (n := 0) (As := []) (rest := []) (c_X10_finds K hW l a0 k0 I17 J18 B _ h) k0 (by decide) rfl ml_X10_437 im_X10_finds se_X10_finds in_X10 co_X10_finds rfl (by decide +kernel) rfl rfl (by decide) (by decide) rfl rfl (Nat.le_of_ble_eq_true rfl) dX10_program_83) (fun I26 h => ?_)
    exact m_X10_program_p86 G hW a0 k0 I26 J18 h
abbrev rm_X10_image : Room := { frames := 1, cells := 0, slots := 0, locals := 23 }
def w_X10_image_l29 (a0 : Nat) (x1 : Int32) (x2 : Int32)  (ke60 : Int32 → MI → Prop) (Q : Int32 → MI → Prop) (rec : Int32 → MI → Prop) (x3 : Int32) (I : MI) : Prop :=
(((600 : Int32) ≤ x3 → ke60 x3 I) ∧
(¬ (600 : Int32) ≤ x3 → (vp_in x3 600 ∧
(vp_in ((x2 + (516 : Int32)) + x3) 4905 ∧
(∀ I10, I10 = ui I (a0 + 1) (ix ((x2 + (516 : Int32)) + x3)) (I (a0 + 2) (ix x3)) →
rec (x3 + 1) I10)))))
set_option maxHeartbeats 4000000 in
set_option maxRecDepth 100000 in
theorem m_X10_image_l29 {K : Kx} {l : Launch} {m : MethodId} {H0 : Heap} {Q : Int32 → MI → Prop} {w : HW} {J : MJ} {B : MR} (G : Gd l rm_X10_image K m RX10 cX10_image 4 H0 (some .boolean) (va_Qi (S := MI) Q (fun u t => HP K (u, J, B) t.heap) (AA K)) w) (hW : WFK K) (a0 : Nat) (x1 : Int32) (x2 : Int32) (x3 : Int32) (ka0 : (kG K a0).1 = 12) (I : MI) (ke60 : Int32 → MI → Prop) (hke60 : ∀ (x3 : Int32) (I : MI), ke60 x3 I → Jg K m 4 H0 w 60 [(0, .ref a0), (1, .int x1), (2, .int x2)] [] (I, J, B)) (h : Lp2 (w_X10_image_l29 a0 x1 x2 ke60 Q) x3 I) : Jg K m 4 H0 w 29 [(0, .ref a0), (1, .int x1), (2, .int x2), (3, .int x3)] [] (I, J, B) := by
  obtain ⟨n, h⟩ := h
  refine lpN2_ind (P := (fun (x3 : Int32) (I : MI) => Jg K m 4 H0 w 29 [(0, .ref a0), (1, .int x1), (2, .int x2), (3, .int x3)] [] (I, J, B))) (fun rec hrec x3 I h => ?_) n x3 I h
  unfold w_X10_image_l29 at h
  refine j_iload_n G 3 3 dX10_image_29 rfl rfl ?_
  refine j_sipush G (600 : Int32) dX10_image_30 (by decide) ?_
  refine j_icmp_ge G 60 dX10_image_33 (by decide) (fun c5 => ?_) (fun c5 => ?_)
  · have h := h.1 c5
    exact Jg.sub [0, 1, 2] rfl (hke60 x3 I h)
  · have h := h.2 c5
    refine j_aload_n G 0 0 dX10_image_36 rfl rfl ?_
    have kk6 : kG K (a0 + 1) = (20, 4905) := wk_12_1 hW ka0
    refine j_get G hW 11 0 4 (.ref (a0 + 1)) ka0 (by decide) rfl (by decide) rfl lay_X10 fl_X10_7 rfl rfl dX10_image_37 ?_
    refine j_iload_n G 2 2 dX10_image_40 rfl rfl ?_
    refine j_sipush G (516 : Int32) dX10_image_41 (by decide) ?_
    refine j_iadd G dX10_image_44 ?_
    refine j_iload_n G 3 3 dX10_image_45 rfl rfl ?_
    refine j_iadd G dX10_image_46 ?_
    refine j_aload_n G 0 0 dX10_image_47 rfl rfl ?_
    have kk7 : kG K (a0 + 2) = (20, 600) := wk_12_2 hW ka0
    refine j_get G hW 11 1 5 (.ref (a0 + 2)) ka0 (by decide) rfl (by decide) rfl lay_X10 fl_X10_13 rfl rfl dX10_image_48 ?_
    refine j_iload_n G 3 3 dX10_image_51 rfl rfl ?_
    obtain ⟨b8, h⟩ := h
    refine j_iald G hW kk7 b8 dX10_image_52 ?_
    obtain ⟨b9, h⟩ := h
    refine j_iast G hW kk6 b9 dX10_image_53 ?_
    refine j_mI (fun I10 eI10 => ?_)
    have h := h I10 eI10
    refine j_iinc G 3 (x3 + 1) [(3, .int (x3 + 1)), (0, .ref a0), (1, .int x1), (2, .int x2)] dX10_image_54 rfl rfl (by decide) rfl ?_
    refine j_goto G 29 dX10_image_57 (by decide) ?_
    exact Jg.sub [1, 2, 3, 0] rfl (hrec (x3 + 1) I10 h)
def w_X10_image (a0 : Nat) (x1 : Int32) (I : MI) (Q : Int32 → MI → Prop) : Prop :=
(w_X10_isIn x1 (0 : Int32) (2 : Int32) (fun r1 =>
((¬ r1 = 0 → (∀ x2_3, x2_3 = (1548 : Int32) + ((1119 : Int32) * x1) →
(w_X10_copies a0 (0 : Int32) x2_3 I (fun I4 =>
Lp2 (w_X10_image_l29 a0 x1 x2_3 (fun x3_11 I12 => (vp_in ((x2_3 + (516 : Int32)) + (600 : Int32)) 4905 ∧
(∀ I15, I15 = ui I12 (a0 + 1) (ix ((x2_3 + (516 : Int32)) + (600 : Int32))) (I12 a0 3) →
(vp_in (((x2_3 + (516 : Int32)) + (600 : Int32)) + (1 : Int32)) 4905 ∧
(∀ I17, I17 = ui I15 (a0 + 1) (ix (((x2_3 + (516 : Int32)) + (600 : Int32)) + (1 : Int32))) (I15 a0 4) →
(vp_in (((x2_3 + (516 : Int32)) + (600 : Int32)) + (2 : Int32)) 4905 ∧
(∀ I19, I19 = ui I17 (a0 + 1) (ix (((x2_3 + (516 : Int32)) + (600 : Int32)) + (2 : Int32))) (I17 a0 5) →
(vp_in x1 3 ∧
(∀ I22, I22 = ui I19 (a0 + 3) (ix x1) (vp_nar .boolean (1 : Int32)) →
Q (1 : Int32) I22))))))))) Q) (0 : Int32) I4)))) ∧
(r1 = 0 → Q (0 : Int32) I))))
set_option maxHeartbeats 4000000 in
set_option maxRecDepth 100000 in
theorem c_X10_image (K : Kx) (hW : WFK K) (l : Launch) (a0 : Nat) (x1 : Int32) (k0 : (kG K a0).1 = 12) (I : MI) (J : MJ) (B : MR) (Q : Int32 → MI → Prop) (h : w_X10_image a0 x1 I Q) : Con K l yX10_image (wsT yX10_image cX10_image 4 (some .boolean)) rm_X10_image [.ref a0, .int x1] (I, J, B) (va_Qi (S := MI) Q (fun u t => HP K (u, J, B) t.heap) (AA K)) := by
  refine Con.ofJ RX10 rfl (by decide) (Nat.le_of_ble_eq_true rfl) (fun m H0 w G => ?_)
  unfold w_X10_image at h
  show Jg K m 4 H0 w 0 [(0, .ref a0), (1, .int x1)] [] (I, J, B)
  refine j_iload_n G 1 1 dX10_image_0 rfl rfl ?_
  refine j_iconst G (0 : Int32) dX10_image_1 (by decide) ?_
  refine j_iconst G (2 : Int32) dX10_image_2 (by decide) ?_
  refine j_ci (rn_S G (n := 3) (As := [.int x1, .int (0 : Int32), .int (2 : Int32)]) (rest := []) (c_X10_isIn K hW l x1 (0 : Int32) (2 : Int32) I J B _ h) ml_X10_190 st_X10_isIn in_X10 co_X10_isIn (by decide +kernel) rfl rfl (by decide) (by decide) rfl rfl (Nat.le_of_ble_eq_true rfl) dX10_image_3) (fun r1 _ h => ?_)
  refine j_if_ne G 11 dX10_image_6 (by decide) (fun c2 => ?_) (fun c2 => ?_)
  · have h := h.1 c2
    refine j_sipush G (1548 : Int32) dX10_image_11 (by decide) ?_
    refine j_sipush G (1119 : Int32) dX10_image_14 (by decide) ?_
    refine j_iload_n G 1 1 dX10_image_17 rfl rfl ?_
    refine j_imul G dX10_image_18 ?_
    refine j_iadd G dX10_image_19 ?_
    refine j_nm (fun x2_3 ex2_3 => ?_)
    have h := h x2_3 ex2_3
    refine j_istore_n G 2 [(2, .int x2_3), (0, .ref a0), (1, .int x1)] dX10_image_20 rfl (by decide) rfl ?_
    refine j_aload_n G 1 0 dX10_image_21 rfl rfl ?_
    refine j_iconst G (0 : Int32) dX10_image_22 (by decide) ?_
    refine j_iload_n G 0 2 dX10_image_23 rfl rfl ?_
    refine j_cv (rn_V G hW (ci := 11) (n := 2) (As := [.int (0 : Int32), .int x2_3]) (rest := []) (c_X10_copies K hW l a0 (0 : Int32) x2_3 k0 I J B _ h) k0 (by decide) rfl ml_X10_177 im_X10_copies se_X10_copies in_X10 co_X10_copies rfl (by decide +kernel) rfl rfl (by decide) (by decide) rfl rfl (Nat.le_of_ble_eq_true rfl) dX10_image_24) (fun I4 h => ?_)
    refine j_iconst G (0 : Int32) dX10_image_27 (by decide) ?_
    refine j_istore_n G 3 [(3, .int (0 : Int32)), (2, .int x2_3), (0, .ref a0), (1, .int x1)] dX10_image_28 rfl (by decide) rfl ?_
    refine Jg.sub [2, 3, 1, 0] rfl (m_X10_image_l29 G hW a0 x1 x2_3 (0 : Int32) k0 I4 _ ?_ h)
    intro x3_11 I12 h
    refine j_aload_n G 0 0 dX10_image_60 rfl rfl ?_
    have kk13 : kG K (a0 + 1) = (20, 4905) := wk_12_1 hW k0
    refine j_get G hW 11 0 4 (.ref (a0 + 1)) k0 (by decide) rfl (by decide) rfl lay_X10 fl_X10_7 rfl rfl dX10_image_61 ?_
    refine j_iload_n G 2 2 dX10_image_64 rfl rfl ?_
    refine j_sipush G (516 : Int32) dX10_image_65 (by decide) ?_
    refine j_iadd G dX10_image_68 ?_
    refine j_sipush G (600 : Int32) dX10_image_69 (by decide) ?_
    refine j_iadd G dX10_image_72 ?_
    refine j_aload_n G 0 0 dX10_image_73 rfl rfl ?_
    refine j_get G hW 11 3 0 (.int (I12 a0 3)) k0 (by decide) rfl (by decide) rfl lay_X10 fl_X10_174 rfl rfl dX10_image_74 ?_
    obtain ⟨b14, h⟩ := h
    refine j_iast G hW kk13 b14 dX10_image_77 ?_
    refine j_mI (fun I15 eI15 => ?_)
    have h := h I15 eI15
    refine j_aload_n G 0 0 dX10_image_78 rfl rfl ?_
    refine j_get G hW 11 0 4 (.ref (a0 + 1)) k0 (by decide) rfl (by decide) rfl lay_X10 fl_X10_7 rfl rfl dX10_image_79 ?_
    refine j_iload_n G 2 2 dX10_image_82 rfl rfl ?_
    refine j_sipush G (516 : Int32) dX10_image_83 (by decide) ?_
    refine j_iadd G dX10_image_86 ?_
    refine j_sipush G (600 : Int32) dX10_image_87 (by decide) ?_
    refine j_iadd G dX10_image_90 ?_
    refine j_iconst G (1 : Int32) dX10_image_91 (by decide) ?_
    refine j_iadd G dX10_image_92 ?_
    refine j_aload_n G 0 0 dX10_image_93 rfl rfl ?_
    refine j_get G hW 11 4 0 (.int (I15 a0 4)) k0 (by decide) rfl (by decide) rfl lay_X10 fl_X10_227 rfl rfl dX10_image_94 ?_
    obtain ⟨b16, h⟩ := h
    refine j_iast G hW kk13 b16 dX10_image_97 ?_
    refine j_mI (fun I17 eI17 => ?_)
    have h := h I17 eI17
    refine j_aload_n G 0 0 dX10_image_98 rfl rfl ?_
    refine j_get G hW 11 0 4 (.ref (a0 + 1)) k0 (by decide) rfl (by decide) rfl lay_X10 fl_X10_7 rfl rfl dX10_image_99 ?_
    refine j_iload_n G 2 2 dX10_image_102 rfl rfl ?_
    refine j_sipush G (516 : Int32) dX10_image_103 (by decide) ?_
    refine j_iadd G dX10_image_106 ?_
    refine j_sipush G (600 : Int32) dX10_image_107 (by decide) ?_
    refine j_iadd G dX10_image_110 ?_
    refine j_iconst G (2 : Int32) dX10_image_111 (by decide) ?_
    refine j_iadd G dX10_image_112 ?_
    refine j_aload_n G 0 0 dX10_image_113 rfl rfl ?_
    refine j_get G hW 11 5 0 (.int (I17 a0 5)) k0 (by decide) rfl (by decide) rfl lay_X10 fl_X10_20 rfl rfl dX10_image_114 ?_
    obtain ⟨b18, h⟩ := h
    refine j_iast G hW kk13 b18 dX10_image_117 ?_
    refine j_mI (fun I19 eI19 => ?_)
    have h := h I19 eI19
    refine j_aload_n G 0 0 dX10_image_118 rfl rfl ?_
    have kk20 : kG K (a0 + 3) = (23, 3) := wk_12_3 hW k0
    refine j_get G hW 11 2 6 (.ref (a0 + 3)) k0 (by decide) rfl (by decide) rfl lay_X10 fl_X10_16 rfl rfl dX10_image_119 ?_
    refine j_iload_n G 1 1 dX10_image_122 rfl rfl ?_
    refine j_iconst G (1 : Int32) dX10_image_123 (by decide) ?_
    obtain ⟨b21, h⟩ := h
    refine j_zast G hW kk20 b21 dX10_image_124 ?_
    refine j_mI (fun I22 eI22 => ?_)
    have h := h I22 eI22
    refine j_iconst G (1 : Int32) dX10_image_125 (by decide) ?_
    exact j_reti G I22 (by decide) dX10_image_126 h rfl
  · have h := h.2 c2
    refine j_iconst G (0 : Int32) dX10_image_9 (by decide) ?_
    exact j_reti G I (by decide) dX10_image_10 h rfl
abbrev rm_X10_again : Room := { frames := 1, cells := 0, slots := 0, locals := 23 }
def w_X10_again_l38 (a0 : Nat) (x2 : Int32)  (ke69 : Int32 → MI → Prop) (Q : Int32 → MI → Prop) (rec : Int32 → MI → Prop) (x3 : Int32) (I : MI) : Prop :=
(((600 : Int32) ≤ x3 → ke69 x3 I) ∧
(¬ (600 : Int32) ≤ x3 → (vp_in ((x2 + (516 : Int32)) + x3) 4905 ∧
(vp_in x3 600 ∧
(∀ I13, I13 = ui I (a0 + 2) (ix x3) (I (a0 + 1) (ix ((x2 + (516 : Int32)) + x3))) →
rec (x3 + 1) I13)))))
set_option maxHeartbeats 4000000 in
set_option maxRecDepth 100000 in
theorem m_X10_again_l38 {K : Kx} {l : Launch} {m : MethodId} {H0 : Heap} {Q : Int32 → MI → Prop} {w : HW} {J : MJ} {B : MR} (G : Gd l rm_X10_again K m RX10 cX10_again 4 H0 (some .boolean) (va_Qi (S := MI) Q (fun u t => HP K (u, J, B) t.heap) (AA K)) w) (hW : WFK K) (a0 : Nat) (x2 : Int32) (x3 : Int32) (ka0 : (kG K a0).1 = 12) (I : MI) (ke69 : Int32 → MI → Prop) (hke69 : ∀ (x3 : Int32) (I : MI), ke69 x3 I → Jg K m 4 H0 w 69 [(0, .ref a0), (2, .int x2)] [] (I, J, B)) (h : Lp2 (w_X10_again_l38 a0 x2 ke69 Q) x3 I) : Jg K m 4 H0 w 38 [(0, .ref a0), (2, .int x2), (3, .int x3)] [] (I, J, B) := by
  obtain ⟨n, h⟩ := h
  refine lpN2_ind (P := (fun (x3 : Int32) (I : MI) => Jg K m 4 H0 w 38 [(0, .ref a0), (2, .int x2), (3, .int x3)] [] (I, J, B))) (fun rec hrec x3 I h => ?_) n x3 I h
  unfold w_X10_again_l38 at h
  refine j_iload_n G 2 3 dX10_again_38 rfl rfl ?_
  refine j_sipush G (600 : Int32) dX10_again_39 (by decide) ?_
  refine j_icmp_ge G 69 dX10_again_42 (by decide) (fun c8 => ?_) (fun c8 => ?_)
  · have h := h.1 c8
    exact Jg.sub [0, 1] rfl (hke69 x3 I h)
  · have h := h.2 c8
    refine j_aload_n G 0 0 dX10_again_45 rfl rfl ?_
    have kk9 : kG K (a0 + 2) = (20, 600) := wk_12_2 hW ka0
    refine j_get G hW 11 1 5 (.ref (a0 + 2)) ka0 (by decide) rfl (by decide) rfl lay_X10 fl_X10_13 rfl rfl dX10_again_46 ?_
    refine j_iload_n G 2 3 dX10_again_49 rfl rfl ?_
    refine j_aload_n G 0 0 dX10_again_50 rfl rfl ?_
    have kk10 : kG K (a0 + 1) = (20, 4905) := wk_12_1 hW ka0
    refine j_get G hW 11 0 4 (.ref (a0 + 1)) ka0 (by decide) rfl (by decide) rfl lay_X10 fl_X10_7 rfl rfl dX10_again_51 ?_
    refine j_iload_n G 1 2 dX10_again_54 rfl rfl ?_
    refine j_sipush G (516 : Int32) dX10_again_55 (by decide) ?_
    refine j_iadd G dX10_again_58 ?_
    refine j_iload_n G 2 3 dX10_again_59 rfl rfl ?_
    refine j_iadd G dX10_again_60 ?_
    obtain ⟨b11, h⟩ := h
    refine j_iald G hW kk10 b11 dX10_again_61 ?_
    obtain ⟨b12, h⟩ := h
    refine j_iast G hW kk9 b12 dX10_again_62 ?_
    refine j_mI (fun I13 eI13 => ?_)
    have h := h I13 eI13
    refine j_iinc G 2 (x3 + 1) [(3, .int (x3 + 1)), (0, .ref a0), (2, .int x2)] dX10_again_63 rfl rfl (by decide) rfl ?_
    refine j_goto G 38 dX10_again_66 (by decide) ?_
    exact Jg.sub [1, 2, 0] rfl (hrec (x3 + 1) I13 h)
def w_X10_again (a0 : Nat) (x1 : Int32) (I : MI) (Q : Int32 → MI → Prop) : Prop :=
(w_X10_isIn x1 (0 : Int32) (2 : Int32) (fun r1 =>
((r1 = 0 → Q (0 : Int32) I) ∧
(¬ r1 = 0 → (vp_in x1 3 ∧
((¬ (I (a0 + 3) (ix x1)) = 0 → (∀ x2_6, x2_6 = (1548 : Int32) + ((1119 : Int32) * x1) →
(w_X10_copies a0 x2_6 (0 : Int32) I (fun I7 =>
Lp2 (w_X10_again_l38 a0 x2_6 (fun x3_14 I15 => (vp_in ((x2_6 + (516 : Int32)) + (600 : Int32)) 4905 ∧
(∀ I18, I18 = ui I15 a0 3 (I15 (a0 + 1) (ix ((x2_6 + (516 : Int32)) + (600 : Int32)))) →
(vp_in (((x2_6 + (516 : Int32)) + (600 : Int32)) + (1 : Int32)) 4905 ∧
(∀ I20, I20 = ui I18 a0 4 (I18 (a0 + 1) (ix (((x2_6 + (516 : Int32)) + (600 : Int32)) + (1 : Int32)))) →
(vp_in (((x2_6 + (516 : Int32)) + (600 : Int32)) + (2 : Int32)) 4905 ∧
(∀ I22, I22 = ui I20 a0 5 (I20 (a0 + 1) (ix (((x2_6 + (516 : Int32)) + (600 : Int32)) + (2 : Int32)))) →
Q (1 : Int32) I22))))))) Q) (0 : Int32) I7)))) ∧
((I (a0 + 3) (ix x1)) = 0 → Q (0 : Int32) I)))))))
set_option maxHeartbeats 4000000 in
set_option maxRecDepth 100000 in
theorem c_X10_again (K : Kx) (hW : WFK K) (l : Launch) (a0 : Nat) (x1 : Int32) (k0 : (kG K a0).1 = 12) (I : MI) (J : MJ) (B : MR) (Q : Int32 → MI → Prop) (h : w_X10_again a0 x1 I Q) : Con K l yX10_again (wsT yX10_again cX10_again 4 (some .boolean)) rm_X10_again [.ref a0, .int x1] (I, J, B) (va_Qi (S := MI) Q (fun u t => HP K (u, J, B) t.heap) (AA K)) := by
  refine Con.ofJ RX10 rfl (by decide) (Nat.le_of_ble_eq_true rfl) (fun m H0 w G => ?_)
  unfold w_X10_again at h
  show Jg K m 4 H0 w 0 [(0, .ref a0), (1, .int x1)] [] (I, J, B)
  refine j_iload_n G 1 1 dX10_again_0 rfl rfl ?_
  refine j_iconst G (0 : Int32) dX10_again_1 (by decide) ?_
  refine j_iconst G (2 : Int32) dX10_again_2 (by decide) ?_
  refine j_ci (rn_S G (n := 3) (As := [.int x1, .int (0 : Int32), .int (2 : Int32)]) (rest := []) (c_X10_isIn K hW l x1 (0 : Int32) (2 : Int32) I J B _ h) ml_X10_190 st_X10_isIn in_X10 co_X10_isIn (by decide +kernel) rfl rfl (by decide) (by decide) rfl rfl (Nat.le_of_ble_eq_true rfl) dX10_again_3) (fun r1 _ h => ?_)
  refine j_if_eq G 18 dX10_again_6 (by decide) (fun c2 => ?_) (fun c2 => ?_)
  · have h := h.1 c2
    refine j_iconst G (0 : Int32) dX10_again_18 (by decide) ?_
    exact j_reti G I (by decide) dX10_again_19 h rfl
  · have h := h.2 c2
    refine j_aload_n G 0 0 dX10_again_9 rfl rfl ?_
    have kk3 : kG K (a0 + 3) = (23, 3) := wk_12_3 hW k0
    refine j_get G hW 11 2 6 (.ref (a0 + 3)) k0 (by decide) rfl (by decide) rfl lay_X10 fl_X10_16 rfl rfl dX10_again_10 ?_
    refine j_iload_n G 1 1 dX10_again_13 rfl rfl ?_
    obtain ⟨b4, h⟩ := h
    refine j_zald G hW kk3 b4 dX10_again_14 ?_
    refine j_if_ne G 20 dX10_again_15 (by decide) (fun c5 => ?_) (fun c5 => ?_)
    · have h := h.1 c5
      refine j_sipush G (1548 : Int32) dX10_again_20 (by decide) ?_
      refine j_sipush G (1119 : Int32) dX10_again_23 (by decide) ?_
      refine j_iload_n G 1 1 dX10_again_26 rfl rfl ?_
      refine j_imul G dX10_again_27 ?_
      refine j_iadd G dX10_again_28 ?_
      refine j_nm (fun x2_6 ex2_6 => ?_)
      have h := h x2_6 ex2_6
      refine j_istore_n G 2 [(2, .int x2_6), (0, .ref a0), (1, .int x1)] dX10_again_29 rfl (by decide) rfl ?_
      refine j_aload_n G 1 0 dX10_again_30 rfl rfl ?_
      refine j_iload_n G 0 2 dX10_again_31 rfl rfl ?_
      refine j_iconst G (0 : Int32) dX10_again_32 (by decide) ?_
      refine j_cv (rn_V G hW (ci := 11) (n := 2) (As := [.int x2_6, .int (0 : Int32)]) (rest := []) (c_X10_copies K hW l a0 x2_6 (0 : Int32) k0 I J B _ h) k0 (by decide) rfl ml_X10_177 im_X10_copies se_X10_copies in_X10 co_X10_copies rfl (by decide +kernel) rfl rfl (by decide) (by decide) rfl rfl (Nat.le_of_ble_eq_true rfl) dX10_again_33) (fun I7 h => ?_)
      refine j_iconst G (0 : Int32) dX10_again_36 (by decide) ?_
      refine j_istore_n G 3 [(3, .int (0 : Int32)), (2, .int x2_6), (0, .ref a0), (1, .int x1)] dX10_again_37 rfl (by decide) rfl ?_
      refine Jg.sub [2, 1, 0] rfl (m_X10_again_l38 G hW a0 x2_6 (0 : Int32) k0 I7 _ ?_ h)
      intro x3_14 I15 h
      refine j_aload_n G 0 0 dX10_again_69 rfl rfl ?_
      refine j_aload_n G 0 0 dX10_again_70 rfl rfl ?_
      have kk16 : kG K (a0 + 1) = (20, 4905) := wk_12_1 hW k0
      refine j_get G hW 11 0 4 (.ref (a0 + 1)) k0 (by decide) rfl (by decide) rfl lay_X10 fl_X10_7 rfl rfl dX10_again_71 ?_
      refine j_iload_n G 1 2 dX10_again_74 rfl rfl ?_
      refine j_sipush G (516 : Int32) dX10_again_75 (by decide) ?_
      refine j_iadd G dX10_again_78 ?_
      refine j_sipush G (600 : Int32) dX10_again_79 (by decide) ?_
      refine j_iadd G dX10_again_82 ?_
      obtain ⟨b17, h⟩ := h
      refine j_iald G hW kk16 b17 dX10_again_83 ?_
      refine j_put G hW 11 3 tyX10 (tyX10 3) tyX10_ok nmX10 k0 (by decide) rfl (by decide) rfl lay_X10 fl_X10_174 rfl rfl (tyX10_ok 3 (by decide)) rfl rfl dX10_again_84 ?_
      refine j_mI (fun I18 eI18 => ?_)
      have h := h I18 eI18
      refine j_aload_n G 0 0 dX10_again_87 rfl rfl ?_
      refine j_aload_n G 0 0 dX10_again_88 rfl rfl ?_
      refine j_get G hW 11 0 4 (.ref (a0 + 1)) k0 (by decide) rfl (by decide) rfl lay_X10 fl_X10_7 rfl rfl dX10_again_89 ?_
      refine j_iload_n G 1 2 dX10_again_92 rfl rfl ?_
      refine j_sipush G (516 : Int32) dX10_again_93 (by decide) ?_
      refine j_iadd G dX10_again_96 ?_
      refine j_sipush G (600 : Int32) dX10_again_97 (by decide) ?_
      refine j_iadd G dX10_again_100 ?_
      refine j_iconst G (1 : Int32) dX10_again_101 (by decide) ?_
      refine j_iadd G dX10_again_102 ?_
      obtain ⟨b19, h⟩ := h
      refine j_iald G hW kk16 b19 dX10_again_103 ?_
      refine j_put G hW 11 4 tyX10 (tyX10 4) tyX10_ok nmX10 k0 (by decide) rfl (by decide) rfl lay_X10 fl_X10_227 rfl rfl (tyX10_ok 4 (by decide)) rfl rfl dX10_again_104 ?_
      refine j_mI (fun I20 eI20 => ?_)
      have h := h I20 eI20
      refine j_aload_n G 0 0 dX10_again_107 rfl rfl ?_
      refine j_aload_n G 0 0 dX10_again_108 rfl rfl ?_
      refine j_get G hW 11 0 4 (.ref (a0 + 1)) k0 (by decide) rfl (by decide) rfl lay_X10 fl_X10_7 rfl rfl dX10_again_109 ?_
      refine j_iload_n G 1 2 dX10_again_112 rfl rfl ?_
      refine j_sipush G (516 : Int32) dX10_again_113 (by decide) ?_
      refine j_iadd G dX10_again_116 ?_
      refine j_sipush G (600 : Int32) dX10_again_117 (by decide) ?_
      refine j_iadd G dX10_again_120 ?_
      refine j_iconst G (2 : Int32) dX10_again_121 (by decide) ?_
      refine j_iadd G dX10_again_122 ?_
      obtain ⟨b21, h⟩ := h
      refine j_iald G hW kk16 b21 dX10_again_123 ?_
      refine j_put G hW 11 5 tyX10 (tyX10 5) tyX10_ok nmX10 k0 (by decide) rfl (by decide) rfl lay_X10 fl_X10_20 rfl rfl (tyX10_ok 5 (by decide)) rfl rfl dX10_again_124 ?_
      refine j_mI (fun I22 eI22 => ?_)
      have h := h I22 eI22
      refine j_iconst G (1 : Int32) dX10_again_127 (by decide) ?_
      exact j_reti G I22 (by decide) dX10_again_128 h rfl
    · have h := h.2 c5
      refine j_iconst G (0 : Int32) dX10_again_18 (by decide) ?_
      exact j_reti G I (by decide) dX10_again_19 h rfl
