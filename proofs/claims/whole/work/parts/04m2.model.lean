abbrev rm_X10_toils : Room := { frames := 6, cells := 0, slots := 0, locals := 145 }
def w_X10_toils_p395 (a0 : Nat) (x1 : Int32) (x7 : Int32)  (I : MI)  (Q : MI → Prop) : Prop :=
(w_X10_does a0 x1 (1 : Int32) x7 I (fun I24 =>
Q I24))
set_option maxHeartbeats 4000000 in
set_option maxRecDepth 100000 in
theorem m_X10_toils_p395 {K : Kx} {l : Launch} {m : MethodId} {H0 : Heap} {Q : MI → Prop} {w : HW} {J : MJ} {B : MR} (G : Gd l rm_X10_toils K m RX10 cX10_toils 11 H0 none (va_Qv (S := MI) Q (fun u t => HP K (u, J, B) t.heap) (AA K)) w) (hW : WFK K) (a0 : Nat) (x1 : Int32) (x7 : Int32)  (ka0 : (kG K a0).1 = 12)  (I : MI)   (h : w_X10_toils_p395 a0 x1 x7 I Q) : Jg K m 11 H0 w 395 [(0, .ref a0), (1, .int x1), (7, .int x7)] [] (I, J, B) := by
  unfold w_X10_toils_p395 at h
  refine j_aload_n G 0 0 dX10_toils_395 rfl rfl ?_
  refine j_iload_n G 1 1 dX10_toils_396 rfl rfl ?_
  refine j_iconst G (1 : Int32) dX10_toils_397 (by decide) ?_
  refine j_iload G 2 dX10_toils_398 rfl ?_
  refine j_cv (rn_V G hW (ci := 11) (n := 3) (As := [.int x1, .int (1 : Int32), .int x7]) (rest := []) (c_X10_does K hW l a0 x1 (1 : Int32) x7 ka0 I J B _ h) ka0 (by decide) rfl ml_X10_104 im_X10_does se_X10_does in_X10 co_X10_does rfl (by decide +kernel) rfl rfl (by decide) (by decide) rfl rfl (Nat.le_of_ble_eq_true rfl) dX10_toils_400) (fun I24 h => ?_)
  exact j_retv G I24 dX10_toils_403 h rfl
def w_X10_toils_p361 (a0 : Nat) (x1 : Int32) (x3 : Int32) (x7 : Int32) (x10 : Int32) (s0 : Int32) (s1 : Int32) (s2 : Int32) (o3 : Nat) (I : MI)  (Q : MI → Prop) : Prop :=
(w_X10_pushes o3 s2 s1 s0 (0 : Int32) (0 : Int32) I (fun I47 =>
((x10 = 0 → w_X10_toils_p395 a0 x1 x7 I47 Q) ∧
(¬ x10 = 0 → (w_X10_of a0 x1 x3 (4 : Int32) I47 (fun r49 =>
w_X10_toils_p395 a0 x1 r49 I47 Q))))))
set_option maxHeartbeats 4000000 in
set_option maxRecDepth 100000 in
theorem m_X10_toils_p361 {K : Kx} {l : Launch} {m : MethodId} {H0 : Heap} {Q : MI → Prop} {w : HW} {J : MJ} {B : MR} (G : Gd l rm_X10_toils K m RX10 cX10_toils 11 H0 none (va_Qv (S := MI) Q (fun u t => HP K (u, J, B) t.heap) (AA K)) w) (hW : WFK K) (a0 : Nat) (x1 : Int32) (x3 : Int32) (x7 : Int32) (x10 : Int32) (s0 : Int32) (s1 : Int32) (s2 : Int32) (o3 : Nat) (ka0 : (kG K a0).1 = 12) (ko3 : (kG K o3).1 = 12) (I : MI)   (h : w_X10_toils_p361 a0 x1 x3 x7 x10 s0 s1 s2 o3 I Q) : Jg K m 11 H0 w 361 [(0, .ref a0), (1, .int x1), (3, .int x3), (7, .int x7), (10, .int x10)] [.int s0, .int s1, .int s2, .ref o3] (I, J, B) := by
  unfold w_X10_toils_p361 at h
  refine j_iconst G (0 : Int32) dX10_toils_361 (by decide) ?_
  refine j_iconst G (0 : Int32) dX10_toils_362 (by decide) ?_
  refine j_cv (rn_V G hW (ci := 11) (n := 5) (As := [.int s2, .int s1, .int s0, .int (0 : Int32), .int (0 : Int32)]) (rest := []) (c_X10_pushes K hW l o3 s2 s1 s0 (0 : Int32) (0 : Int32) ko3 I J B _ h) ko3 (by decide) rfl ml_X10_118 im_X10_pushes se_X10_pushes in_X10 co_X10_pushes rfl (by decide +kernel) rfl rfl (by decide) (by decide) rfl rfl (Nat.le_of_ble_eq_true rfl) dX10_toils_363) (fun I47 h => ?_)
  refine j_iload G 4 dX10_toils_366 rfl ?_
  refine j_if_eq G 381 dX10_toils_368 (by decide) (fun c48 => ?_) (fun c48 => ?_)
  · have h := h.1 c48
    refine j_iload G 3 dX10_toils_381 rfl ?_
    refine j_istore G [(7, .int x7), (0, .ref a0), (1, .int x1), (3, .int x3), (10, .int x10)] dX10_toils_383 (by decide) rfl ?_
    refine j_goto G 395 dX10_toils_385 (by decide) ?_
    exact Jg.sub [1, 2, 0] rfl (m_X10_toils_p395 G hW a0 x1 x7 ka0 I47 h)
  · have h := h.2 c48
    refine j_aload_n G 0 0 dX10_toils_371 rfl rfl ?_
    refine j_iload_n G 1 1 dX10_toils_372 rfl rfl ?_
    refine j_iload_n G 2 3 dX10_toils_373 rfl rfl ?_
    refine j_iconst G (4 : Int32) dX10_toils_374 (by decide) ?_
    refine j_ci (rn_V G hW (ci := 11) (n := 3) (As := [.int x1, .int x3, .int (4 : Int32)]) (rest := []) (c_X10_of K hW l a0 x1 x3 (4 : Int32) ka0 I47 J B _ h) ka0 (by decide) rfl ml_X10_54 im_X10_of se_X10_of in_X10 co_X10_of rfl (by decide +kernel) rfl rfl (by decide) (by decide) rfl rfl (Nat.le_of_ble_eq_true rfl) dX10_toils_375) (fun r49 _ h => ?_)
    refine j_goto G 383 dX10_toils_378 (by decide) ?_
    refine j_istore G [(7, .int r49), (0, .ref a0), (1, .int x1), (3, .int x3), (10, .int x10)] dX10_toils_383 (by decide) rfl ?_
    refine j_goto G 395 dX10_toils_385 (by decide) ?_
    exact Jg.sub [1, 2, 0] rfl (m_X10_toils_p395 G hW a0 x1 r49 ka0 I47 h)
def w_X10_toils (a0 : Nat) (x1 : Int32) (I : MI) (Q : MI → Prop) : Prop :=
(w_X10_sideAt x1 (1 : Int32) (fun r1 =>
(w_X10_passes a0 x1 (1 : Int32) I (fun I2 =>
(vp_in (r1 + (0 : Int32)) 4905 ∧
(∀ x3_5, x3_5 = I2 (a0 + 1) (ix (r1 + (0 : Int32))) →
(vp_in (r1 + (1 : Int32)) 4905 ∧
(w_X10_deed a0 x1 (1 : Int32) x3_5 (I2 (a0 + 1) (ix (r1 + (1 : Int32)))) I2 (fun r7 =>
(w_X10_excuse a0 x1 x3_5 r7 I2 (fun r8 =>
((r8 ≤ 0 → (w_X10_of a0 x1 x3_5 (1 : Int32) I2 (fun r10 =>
(∀ x7_11, x7_11 = x3_5 + (1 : Int32) →
((r7 = (2 : Int32) → (w_X10_opOf a0 x1 x3_5 I2 (fun r12 =>
((¬ r12 = 0 → (w_X10_of a0 x1 x3_5 (2 : Int32) I2 (fun r14 =>
(w_X10_works a0 x1 r14 I2 (fun r15 I16 =>
(w_X10_of a0 x1 x3_5 (3 : Int32) I16 (fun r17 =>
(w_X10_works a0 x1 r17 I16 (fun r18 I19 =>
(w_X10_opOf a0 x1 x3_5 I19 (fun r20 =>
(w_X10_reckons a0 r20 r15 r18 (fun r21 =>
(vp_in ((x1 + (210 : Int32)) + r10) 4905 ∧
(∀ I23, I23 = ui I19 (a0 + 1) (ix ((x1 + (210 : Int32)) + r10)) r21 →
w_X10_toils_p395 a0 x1 x7_11 I23 Q))))))))))))))) ∧
(r12 = 0 → (w_X10_of a0 x1 x3_5 (4 : Int32) I2 (fun r25 =>
(vp_in ((x1 + (210 : Int32)) + r10) 4905 ∧
(∀ I27, I27 = ui I2 (a0 + 1) (ix ((x1 + (210 : Int32)) + r10)) r25 →
w_X10_toils_p395 a0 x1 x7_11 I27 Q))))))))) ∧
(r7 = (5 : Int32) → (w_X10_takes a0 x1 (0 : Int32) I2 (fun r28 I29 =>
(vp_in ((x1 + (210 : Int32)) + r10) 4905 ∧
(∀ I31, I31 = ui I29 (a0 + 1) (ix ((x1 + (210 : Int32)) + r10)) r28 →
w_X10_toils_p395 a0 x1 x7_11 I31 Q))))) ∧
(r7 = (8 : Int32) → (w_X10_reg a0 x1 r10 I2 (fun r32 =>
(w_X10_pushes a0 x1 (2 : Int32) r32 (0 : Int32) (0 : Int32) I2 (fun I33 =>
w_X10_toils_p395 a0 x1 x7_11 I33 Q))))) ∧
(r7 = (9 : Int32) → (w_X10_of a0 x1 x3_5 (4 : Int32) I2 (fun r34 =>
w_X10_toils_p395 a0 x1 r34 I2 Q))) ∧
(r7 = (11 : Int32) → (w_X10_takes a0 x1 (4 : Int32) I2 (fun r35 I36 =>
((¬ r35 = (1 : Int32) → w_X10_toils_p395 a0 x1 x7_11 I36 Q) ∧
(r35 = (1 : Int32) → (w_X10_of a0 x1 x3_5 (4 : Int32) I36 (fun r38 =>
w_X10_toils_p395 a0 x1 r38 I36 Q))))))) ∧
(r7 = (13 : Int32) → (w_X10_works a0 x1 r10 I2 (fun r39 I40 =>
(w_X10_of a0 x1 x3_5 (2 : Int32) I40 (fun r41 =>
(w_X10_works a0 x1 r41 I40 (fun r42 I43 =>
(w_X10_of a0 x1 x3_5 (3 : Int32) I43 (fun r44 =>
(w_X10_holds r44 r39 r42 (fun r45 =>
((r45 = 0 → w_X10_toils_p361 a0 x1 x3_5 x7_11 r45 (0 : Int32) (5 : Int32) x1 a0 I43 Q) ∧
(¬ r45 = 0 → w_X10_toils_p361 a0 x1 x3_5 x7_11 r45 (1 : Int32) (5 : Int32) x1 a0 I43 Q))))))))))))) ∧
(¬ r7 = (2 : Int32) → ¬ r7 = (5 : Int32) → ¬ r7 = (8 : Int32) → ¬ r7 = (9 : Int32) → ¬ r7 = (11 : Int32) → ¬ r7 = (13 : Int32) → (w_X10_ends a0 x1 (1 : Int32) I2 (fun I50 =>
Q I50)))))))) ∧
(¬ r8 ≤ 0 → (w_X10_waits a0 x1 (1 : Int32) r8 I2 (fun I63 =>
Q I63)))))))))))))))
set_option maxHeartbeats 4000000 in
set_option maxRecDepth 100000 in
theorem c_X10_toils (K : Kx) (hW : WFK K) (l : Launch) (a0 : Nat) (x1 : Int32) (k0 : (kG K a0).1 = 12) (I : MI) (J : MJ) (B : MR) (Q : MI → Prop) (h : w_X10_toils a0 x1 I Q) : Con K l yX10_toils (wsT yX10_toils cX10_toils 11 none) rm_X10_toils [.ref a0, .int x1] (I, J, B) (va_Qv (S := MI) Q (fun u t => HP K (u, J, B) t.heap) (AA K)) := by
  refine Con.ofJ RX10 rfl (by decide) (Nat.le_of_ble_eq_true rfl) (fun m H0 w G => ?_)
  unfold w_X10_toils at h
  show Jg K m 11 H0 w 0 [(0, .ref a0), (1, .int x1)] [] (I, J, B)
  refine j_iload_n G 1 1 dX10_toils_0 rfl rfl ?_
  refine j_iconst G (1 : Int32) dX10_toils_1 (by decide) ?_
  refine j_ci (rn_S G (n := 2) (As := [.int x1, .int (1 : Int32)]) (rest := []) (c_X10_sideAt K hW l x1 (1 : Int32) I J B _ h) ml_X10_98 st_X10_sideAt in_X10 co_X10_sideAt (by decide +kernel) rfl rfl (by decide) (by decide) rfl rfl (Nat.le_of_ble_eq_true rfl) dX10_toils_2) (fun r1 _ h => ?_)
  refine j_istore_n G 2 [(2, .int r1), (0, .ref a0), (1, .int x1)] dX10_toils_5 rfl (by decide) rfl ?_
  refine j_aload_n G 1 0 dX10_toils_6 rfl rfl ?_
  refine j_iload_n G 2 1 dX10_toils_7 rfl rfl ?_
  refine j_iconst G (1 : Int32) dX10_toils_8 (by decide) ?_
  refine j_cv (rn_V G hW (ci := 11) (n := 2) (As := [.int x1, .int (1 : Int32)]) (rest := []) (c_X10_passes K hW l a0 x1 (1 : Int32) k0 I J B _ h) k0 (by decide) rfl ml_X10_108 im_X10_passes se_X10_passes in_X10 co_X10_passes rfl (by decide +kernel) rfl rfl (by decide) (by decide) rfl rfl (Nat.le_of_ble_eq_true rfl) dX10_toils_9) (fun I2 h => ?_)
  refine j_aload_n G 1 0 dX10_toils_12 rfl rfl ?_
  have kk3 : kG K (a0 + 1) = (20, 4905) := wk_12_1 hW k0
  refine j_get G hW 11 0 4 (.ref (a0 + 1)) k0 (by decide) rfl (by decide) rfl lay_X10 fl_X10_7 rfl rfl dX10_toils_13 ?_
  refine j_iload_n G 0 2 dX10_toils_16 rfl rfl ?_
  refine j_iconst G (0 : Int32) dX10_toils_17 (by decide) ?_
  refine j_iadd G dX10_toils_18 ?_
  obtain ⟨b4, h⟩ := h
  refine j_iald G hW kk3 b4 dX10_toils_19 ?_
  refine j_nm (fun x3_5 ex3_5 => ?_)
  have h := h x3_5 ex3_5
  refine j_istore_n G 3 [(3, .int x3_5), (2, .int r1), (0, .ref a0), (1, .int x1)] dX10_toils_20 rfl (by decide) rfl ?_
  refine j_aload_n G 2 0 dX10_toils_21 rfl rfl ?_
  refine j_iload_n G 3 1 dX10_toils_22 rfl rfl ?_
  refine j_iconst G (1 : Int32) dX10_toils_23 (by decide) ?_
  refine j_iload_n G 0 3 dX10_toils_24 rfl rfl ?_
  refine j_aload_n G 2 0 dX10_toils_25 rfl rfl ?_
  refine j_get G hW 11 0 4 (.ref (a0 + 1)) k0 (by decide) rfl (by decide) rfl lay_X10 fl_X10_7 rfl rfl dX10_toils_26 ?_
  refine j_iload_n G 1 2 dX10_toils_29 rfl rfl ?_
  refine j_iconst G (1 : Int32) dX10_toils_30 (by decide) ?_
  refine j_iadd G dX10_toils_31 ?_
  obtain ⟨b6, h⟩ := h
  refine j_iald G hW kk3 b6 dX10_toils_32 ?_
  refine j_ci (rn_V G hW (ci := 11) (n := 4) (As := [.int x1, .int (1 : Int32), .int x3_5, .int (I2 (a0 + 1) (ix (r1 + (1 : Int32))))]) (rest := []) (c_X10_deed K hW l a0 x1 (1 : Int32) x3_5 (I2 (a0 + 1) (ix (r1 + (1 : Int32)))) k0 I2 J B _ h) k0 (by decide) rfl ml_X10_80 im_X10_deed se_X10_deed in_X10 co_X10_deed rfl (by decide +kernel) rfl rfl (by decide) (by decide) rfl rfl (Nat.le_of_ble_eq_true rfl) dX10_toils_33) (fun r7 _ h => ?_)
  refine j_istore G [(4, .int r7), (3, .int x3_5), (2, .int r1), (0, .ref a0), (1, .int x1)] dX10_toils_36 (by decide) rfl ?_
  refine j_aload_n G 3 0 dX10_toils_38 rfl rfl ?_
  refine j_iload_n G 4 1 dX10_toils_39 rfl rfl ?_
  refine j_iload_n G 1 3 dX10_toils_40 rfl rfl ?_
  refine j_iload G 0 dX10_toils_41 rfl ?_
  refine j_ci (rn_V G hW (ci := 11) (n := 3) (As := [.int x1, .int x3_5, .int r7]) (rest := []) (c_X10_excuse K hW l a0 x1 x3_5 r7 k0 I2 J B _ h) k0 (by decide) rfl ml_X10_144 im_X10_excuse se_X10_excuse in_X10 co_X10_excuse rfl (by decide +kernel) rfl rfl (by decide) (by decide) rfl rfl (Nat.le_of_ble_eq_true rfl) dX10_toils_43) (fun r8 _ h => ?_)
  refine j_istore G [(5, .int r8), (4, .int r7), (3, .int x3_5), (2, .int r1), (0, .ref a0), (1, .int x1)] dX10_toils_46 (by decide) rfl ?_
  refine j_iload G 0 dX10_toils_48 rfl ?_
  refine j_if_le G 62 dX10_toils_50 (by decide) (fun c9 => ?_) (fun c9 => ?_)
  · have h := h.1 c9
    refine j_aload_n G 4 0 dX10_toils_62 rfl rfl ?_
    refine j_iload_n G 5 1 dX10_toils_63 rfl rfl ?_
    refine j_iload_n G 2 3 dX10_toils_64 rfl rfl ?_
    refine j_iconst G (1 : Int32) dX10_toils_65 (by decide) ?_
    refine j_ci (rn_V G hW (ci := 11) (n := 3) (As := [.int x1, .int x3_5, .int (1 : Int32)]) (rest := []) (c_X10_of K hW l a0 x1 x3_5 (1 : Int32) k0 I2 J B _ h) k0 (by decide) rfl ml_X10_54 im_X10_of se_X10_of in_X10 co_X10_of rfl (by decide +kernel) rfl rfl (by decide) (by decide) rfl rfl (Nat.le_of_ble_eq_true rfl) dX10_toils_66) (fun r10 _ h => ?_)
    refine j_istore G [(6, .int r10), (5, .int r8), (4, .int r7), (3, .int x3_5), (2, .int r1), (0, .ref a0), (1, .int x1)] dX10_toils_69 (by decide) rfl ?_
    refine j_iload_n G 3 3 dX10_toils_71 rfl rfl ?_
    refine j_iconst G (1 : Int32) dX10_toils_72 (by decide) ?_
    refine j_iadd G dX10_toils_73 ?_
    refine j_nm (fun x7_11 ex7_11 => ?_)
    have h := h x7_11 ex7_11
    refine j_istore G [(7, .int x7_11), (6, .int r10), (5, .int r8), (4, .int r7), (3, .int x3_5), (2, .int r1), (0, .ref a0), (1, .int x1)] dX10_toils_74 (by decide) rfl ?_
    refine j_iload G 3 dX10_toils_76 rfl ?_
    by_cases c51 : r7 = (2 : Int32)
    · have h := h.1 (c51)
      refine j_tableIn G 140 dX10_toils_78 (by rw [c51]; decide) (by rw [c51]; decide) (by rw [c51] <;> rfl) (by decide) ?_
      refine j_aload_n G 6 0 dX10_toils_140 rfl rfl ?_
      refine j_iload_n G 7 1 dX10_toils_141 rfl rfl ?_
      refine j_iload_n G 4 3 dX10_toils_142 rfl rfl ?_
      refine j_ci (rn_V G hW (ci := 11) (n := 2) (As := [.int x1, .int x3_5]) (rest := []) (c_X10_opOf K hW l a0 x1 x3_5 k0 I2 J B _ h) k0 (by decide) rfl ml_X10_58 im_X10_opOf se_X10_opOf in_X10 co_X10_opOf rfl (by decide +kernel) rfl rfl (by decide) (by decide) rfl rfl (Nat.le_of_ble_eq_true rfl) dX10_toils_143) (fun r12 _ h => ?_)
      refine j_if_ne G 172 dX10_toils_146 (by decide) (fun c13 => ?_) (fun c13 => ?_)
      · have h := h.1 c13
        refine j_aload_n G 6 0 dX10_toils_172 rfl rfl ?_
        refine j_iload_n G 7 1 dX10_toils_173 rfl rfl ?_
        refine j_aload_n G 6 0 dX10_toils_174 rfl rfl ?_
        refine j_iload_n G 7 1 dX10_toils_175 rfl rfl ?_
        refine j_iload_n G 4 3 dX10_toils_176 rfl rfl ?_
        refine j_iconst G (2 : Int32) dX10_toils_177 (by decide) ?_
        refine j_ci (rn_V G hW (ci := 11) (n := 3) (As := [.int x1, .int x3_5, .int (2 : Int32)]) (rest := [.int x1, .ref a0]) (c_X10_of K hW l a0 x1 x3_5 (2 : Int32) k0 I2 J B _ h) k0 (by decide) rfl ml_X10_54 im_X10_of se_X10_of in_X10 co_X10_of rfl (by decide +kernel) rfl rfl (by decide) (by decide) rfl rfl (Nat.le_of_ble_eq_true rfl) dX10_toils_178) (fun r14 _ h => ?_)
        refine j_ci (rn_V G hW (ci := 11) (n := 2) (As := [.int x1, .int r14]) (rest := []) (c_X10_works K hW l a0 x1 r14 k0 I2 J B _ h) k0 (by decide) rfl ml_X10_147 im_X10_works se_X10_works in_X10 co_X10_works rfl (by decide +kernel) rfl rfl (by decide) (by decide) rfl rfl (Nat.le_of_ble_eq_true rfl) dX10_toils_181) (fun r15 I16 h => ?_)
        refine j_istore G [(8, .int r15), (7, .int x7_11), (6, .int r10), (5, .int r8), (4, .int r7), (3, .int x3_5), (2, .int r1), (0, .ref a0), (1, .int x1)] dX10_toils_184 (by decide) rfl ?_
        refine j_aload_n G 7 0 dX10_toils_186 rfl rfl ?_
        refine j_iload_n G 8 1 dX10_toils_187 rfl rfl ?_
        refine j_aload_n G 7 0 dX10_toils_188 rfl rfl ?_
        refine j_iload_n G 8 1 dX10_toils_189 rfl rfl ?_
        refine j_iload_n G 5 3 dX10_toils_190 rfl rfl ?_
        refine j_iconst G (3 : Int32) dX10_toils_191 (by decide) ?_
        refine j_ci (rn_V G hW (ci := 11) (n := 3) (As := [.int x1, .int x3_5, .int (3 : Int32)]) (rest := [.int x1, .ref a0]) (c_X10_of K hW l a0 x1 x3_5 (3 : Int32) k0 I16 J B _ h) k0 (by decide) rfl ml_X10_54 im_X10_of se_X10_of in_X10 co_X10_of rfl (by decide +kernel) rfl rfl (by decide) (by decide) rfl rfl (Nat.le_of_ble_eq_true rfl) dX10_toils_192) (fun r17 _ h => ?_)
        refine j_ci (rn_V G hW (ci := 11) (n := 2) (As := [.int x1, .int r17]) (rest := []) (c_X10_works K hW l a0 x1 r17 k0 I16 J B _ h) k0 (by decide) rfl ml_X10_147 im_X10_works se_X10_works in_X10 co_X10_works rfl (by decide +kernel) rfl rfl (by decide) (by decide) rfl rfl (Nat.le_of_ble_eq_true rfl) dX10_toils_195) (fun r18 I19 h => ?_)
        refine j_istore G [(9, .int r18), (8, .int r15), (7, .int x7_11), (6, .int r10), (5, .int r8), (4, .int r7), (3, .int x3_5), (2, .int r1), (0, .ref a0), (1, .int x1)] dX10_toils_198 (by decide) rfl ?_
        refine j_aload_n G 8 0 dX10_toils_200 rfl rfl ?_
        refine j_get G hW 11 0 4 (.ref (a0 + 1)) k0 (by decide) rfl (by decide) rfl lay_X10 fl_X10_7 rfl rfl dX10_toils_201 ?_
        refine j_iload_n G 9 1 dX10_toils_204 rfl rfl ?_
        refine j_sipush G (210 : Int32) dX10_toils_205 (by decide) ?_
        refine j_iadd G dX10_toils_208 ?_
        refine j_iload G 3 dX10_toils_209 rfl ?_
        refine j_iadd G dX10_toils_211 ?_
        refine j_aload_n G 8 0 dX10_toils_212 rfl rfl ?_
        refine j_aload_n G 8 0 dX10_toils_213 rfl rfl ?_
        refine j_iload_n G 9 1 dX10_toils_214 rfl rfl ?_
        refine j_iload_n G 6 3 dX10_toils_215 rfl rfl ?_
        refine j_ci (rn_V G hW (ci := 11) (n := 2) (As := [.int x1, .int x3_5]) (rest := [.ref a0, .int ((x1 + (210 : Int32)) + r10), .ref (a0 + 1)]) (c_X10_opOf K hW l a0 x1 x3_5 k0 I19 J B _ h) k0 (by decide) rfl ml_X10_58 im_X10_opOf se_X10_opOf in_X10 co_X10_opOf rfl (by decide +kernel) rfl rfl (by decide) (by decide) rfl rfl (Nat.le_of_ble_eq_true rfl) dX10_toils_216) (fun r20 _ h => ?_)
        refine j_iload G 1 dX10_toils_219 rfl ?_
        refine j_iload G 0 dX10_toils_221 rfl ?_
        refine j_ci (rn_V G hW (ci := 11) (n := 3) (As := [.int r20, .int r15, .int r18]) (rest := [.int ((x1 + (210 : Int32)) + r10), .ref (a0 + 1)]) (c_X10_reckons K hW l a0 r20 r15 r18 k0 I19 J B _ h) k0 (by decide) rfl ml_X10_135 im_X10_reckons se_X10_reckons in_X10 co_X10_reckons rfl (by decide +kernel) rfl rfl (by decide) (by decide) rfl rfl (Nat.le_of_ble_eq_true rfl) dX10_toils_223) (fun r21 _ h => ?_)
        obtain ⟨b22, h⟩ := h
        refine j_iast G hW kk3 b22 dX10_toils_226 ?_
        refine j_mI (fun I23 eI23 => ?_)
        have h := h I23 eI23
        refine j_goto G 395 dX10_toils_227 (by decide) ?_
        exact Jg.sub [8, 9, 2] rfl (m_X10_toils_p395 G hW a0 x1 x7_11 k0 I23 h)
      · have h := h.2 c13
        refine j_aload_n G 6 0 dX10_toils_149 rfl rfl ?_
        refine j_get G hW 11 0 4 (.ref (a0 + 1)) k0 (by decide) rfl (by decide) rfl lay_X10 fl_X10_7 rfl rfl dX10_toils_150 ?_
        refine j_iload_n G 7 1 dX10_toils_153 rfl rfl ?_
        refine j_sipush G (210 : Int32) dX10_toils_154 (by decide) ?_
        refine j_iadd G dX10_toils_157 ?_
        refine j_iload G 1 dX10_toils_158 rfl ?_
        refine j_iadd G dX10_toils_160 ?_
        refine j_aload_n G 6 0 dX10_toils_161 rfl rfl ?_
        refine j_iload_n G 7 1 dX10_toils_162 rfl rfl ?_
        refine j_iload_n G 4 3 dX10_toils_163 rfl rfl ?_
        refine j_iconst G (4 : Int32) dX10_toils_164 (by decide) ?_
        refine j_ci (rn_V G hW (ci := 11) (n := 3) (As := [.int x1, .int x3_5, .int (4 : Int32)]) (rest := [.int ((x1 + (210 : Int32)) + r10), .ref (a0 + 1)]) (c_X10_of K hW l a0 x1 x3_5 (4 : Int32) k0 I2 J B _ h) k0 (by decide) rfl ml_X10_54 im_X10_of se_X10_of in_X10 co_X10_of rfl (by decide +kernel) rfl rfl (by decide) (by decide) rfl rfl (Nat.le_of_ble_eq_true rfl) dX10_toils_165) (fun r25 _ h => ?_)
        obtain ⟨b26, h⟩ := h
        refine j_iast G hW kk3 b26 dX10_toils_168 ?_
        refine j_mI (fun I27 eI27 => ?_)
        have h := h I27 eI27
        refine j_goto G 395 dX10_toils_169 (by decide) ?_
        exact Jg.sub [6, 7, 0] rfl (m_X10_toils_p395 G hW a0 x1 x7_11 k0 I27 h)
    · skip
      by_cases c52 : r7 = (5 : Int32)
      · have h := h.2.1 (c52)
        refine j_tableIn G 230 dX10_toils_78 (by rw [c52]; decide) (by rw [c52]; decide) (by rw [c52] <;> rfl) (by decide) ?_
        refine j_aload_n G 6 0 dX10_toils_230 rfl rfl ?_
        refine j_get G hW 11 0 4 (.ref (a0 + 1)) k0 (by decide) rfl (by decide) rfl lay_X10 fl_X10_7 rfl rfl dX10_toils_231 ?_
        refine j_iload_n G 7 1 dX10_toils_234 rfl rfl ?_
        refine j_sipush G (210 : Int32) dX10_toils_235 (by decide) ?_
        refine j_iadd G dX10_toils_238 ?_
        refine j_iload G 1 dX10_toils_239 rfl ?_
        refine j_iadd G dX10_toils_241 ?_
        refine j_aload_n G 6 0 dX10_toils_242 rfl rfl ?_
        refine j_iload_n G 7 1 dX10_toils_243 rfl rfl ?_
        refine j_iconst G (0 : Int32) dX10_toils_244 (by decide) ?_
        refine j_ci (rn_V G hW (ci := 11) (n := 2) (As := [.int x1, .int (0 : Int32)]) (rest := [.int ((x1 + (210 : Int32)) + r10), .ref (a0 + 1)]) (c_X10_takes K hW l a0 x1 (0 : Int32) k0 I2 J B _ h) k0 (by decide) rfl ml_X10_101 im_X10_takes se_X10_takes in_X10 co_X10_takes rfl (by decide +kernel) rfl rfl (by decide) (by decide) rfl rfl (Nat.le_of_ble_eq_true rfl) dX10_toils_245) (fun r28 I29 h => ?_)
        obtain ⟨b30, h⟩ := h
        refine j_iast G hW kk3 b30 dX10_toils_248 ?_
        refine j_mI (fun I31 eI31 => ?_)
        have h := h I31 eI31
        refine j_goto G 395 dX10_toils_249 (by decide) ?_
        exact Jg.sub [6, 7, 0] rfl (m_X10_toils_p395 G hW a0 x1 x7_11 k0 I31 h)
      · skip
        by_cases c53 : r7 = (8 : Int32)
        · have h := h.2.2.1 (c53)
          refine j_tableIn G 252 dX10_toils_78 (by rw [c53]; decide) (by rw [c53]; decide) (by rw [c53] <;> rfl) (by decide) ?_
          refine j_aload_n G 6 0 dX10_toils_252 rfl rfl ?_
          refine j_iload_n G 7 1 dX10_toils_253 rfl rfl ?_
          refine j_iconst G (2 : Int32) dX10_toils_254 (by decide) ?_
          refine j_aload_n G 6 0 dX10_toils_255 rfl rfl ?_
          refine j_iload_n G 7 1 dX10_toils_256 rfl rfl ?_
          refine j_iload G 1 dX10_toils_257 rfl ?_
          refine j_ci (rn_V G hW (ci := 11) (n := 2) (As := [.int x1, .int r10]) (rest := [.int (2 : Int32), .int x1, .ref a0]) (c_X10_reg K hW l a0 x1 r10 k0 I2 J B _ h) k0 (by decide) rfl ml_X10_92 im_X10_reg se_X10_reg in_X10 co_X10_reg rfl (by decide +kernel) rfl rfl (by decide) (by decide) rfl rfl (Nat.le_of_ble_eq_true rfl) dX10_toils_259) (fun r32 _ h => ?_)
          refine j_iconst G (0 : Int32) dX10_toils_262 (by decide) ?_
          refine j_iconst G (0 : Int32) dX10_toils_263 (by decide) ?_
          refine j_cv (rn_V G hW (ci := 11) (n := 5) (As := [.int x1, .int (2 : Int32), .int r32, .int (0 : Int32), .int (0 : Int32)]) (rest := []) (c_X10_pushes K hW l a0 x1 (2 : Int32) r32 (0 : Int32) (0 : Int32) k0 I2 J B _ h) k0 (by decide) rfl ml_X10_118 im_X10_pushes se_X10_pushes in_X10 co_X10_pushes rfl (by decide +kernel) rfl rfl (by decide) (by decide) rfl rfl (Nat.le_of_ble_eq_true rfl) dX10_toils_264) (fun I33 h => ?_)
          refine j_goto G 395 dX10_toils_267 (by decide) ?_
          exact Jg.sub [6, 7, 0] rfl (m_X10_toils_p395 G hW a0 x1 x7_11 k0 I33 h)
        · skip
          by_cases c54 : r7 = (9 : Int32)
          · have h := h.2.2.2.1 (c54)
            refine j_tableIn G 270 dX10_toils_78 (by rw [c54]; decide) (by rw [c54]; decide) (by rw [c54] <;> rfl) (by decide) ?_
            refine j_aload_n G 6 0 dX10_toils_270 rfl rfl ?_
            refine j_iload_n G 7 1 dX10_toils_271 rfl rfl ?_
            refine j_iload_n G 4 3 dX10_toils_272 rfl rfl ?_
            refine j_iconst G (4 : Int32) dX10_toils_273 (by decide) ?_
            refine j_ci (rn_V G hW (ci := 11) (n := 3) (As := [.int x1, .int x3_5, .int (4 : Int32)]) (rest := []) (c_X10_of K hW l a0 x1 x3_5 (4 : Int32) k0 I2 J B _ h) k0 (by decide) rfl ml_X10_54 im_X10_of se_X10_of in_X10 co_X10_of rfl (by decide +kernel) rfl rfl (by decide) (by decide) rfl rfl (Nat.le_of_ble_eq_true rfl) dX10_toils_274) (fun r34 _ h => ?_)
            refine j_istore G [(7, .int r34), (6, .int r10), (5, .int r8), (4, .int r7), (3, .int x3_5), (2, .int r1), (0, .ref a0), (1, .int x1)] dX10_toils_277 (by decide) rfl ?_
            refine j_goto G 395 dX10_toils_279 (by decide) ?_
            exact Jg.sub [6, 7, 0] rfl (m_X10_toils_p395 G hW a0 x1 r34 k0 I2 h)
          · skip
            by_cases c55 : r7 = (11 : Int32)
            · have h := h.2.2.2.2.1 (c55)
              refine j_tableIn G 282 dX10_toils_78 (by rw [c55]; decide) (by rw [c55]; decide) (by rw [c55] <;> rfl) (by decide) ?_
              refine j_aload_n G 6 0 dX10_toils_282 rfl rfl ?_
              refine j_iload_n G 7 1 dX10_toils_283 rfl rfl ?_
              refine j_iconst G (4 : Int32) dX10_toils_284 (by decide) ?_
              refine j_ci (rn_V G hW (ci := 11) (n := 2) (As := [.int x1, .int (4 : Int32)]) (rest := []) (c_X10_takes K hW l a0 x1 (4 : Int32) k0 I2 J B _ h) k0 (by decide) rfl ml_X10_101 im_X10_takes se_X10_takes in_X10 co_X10_takes rfl (by decide +kernel) rfl rfl (by decide) (by decide) rfl rfl (Nat.le_of_ble_eq_true rfl) dX10_toils_285) (fun r35 I36 h => ?_)
              refine j_iconst G (1 : Int32) dX10_toils_288 (by decide) ?_
              refine j_icmp_ne G 302 dX10_toils_289 (by decide) (fun c37 => ?_) (fun c37 => ?_)
              · have h := h.1 c37
                refine j_iload G 0 dX10_toils_302 rfl ?_
                refine j_istore G [(7, .int x7_11), (6, .int r10), (5, .int r8), (4, .int r7), (3, .int x3_5), (2, .int r1), (0, .ref a0), (1, .int x1)] dX10_toils_304 (by decide) rfl ?_
                refine j_goto G 395 dX10_toils_306 (by decide) ?_
                exact Jg.sub [6, 7, 0] rfl (m_X10_toils_p395 G hW a0 x1 x7_11 k0 I36 h)
              · have h := h.2 c37
                refine j_aload_n G 6 0 dX10_toils_292 rfl rfl ?_
                refine j_iload_n G 7 1 dX10_toils_293 rfl rfl ?_
                refine j_iload_n G 4 3 dX10_toils_294 rfl rfl ?_
                refine j_iconst G (4 : Int32) dX10_toils_295 (by decide) ?_
                refine j_ci (rn_V G hW (ci := 11) (n := 3) (As := [.int x1, .int x3_5, .int (4 : Int32)]) (rest := []) (c_X10_of K hW l a0 x1 x3_5 (4 : Int32) k0 I36 J B _ h) k0 (by decide) rfl ml_X10_54 im_X10_of se_X10_of in_X10 co_X10_of rfl (by decide +kernel) rfl rfl (by decide) (by decide) rfl rfl (Nat.le_of_ble_eq_true rfl) dX10_toils_296) (fun r38 _ h => ?_)
                refine j_goto G 304 dX10_toils_299 (by decide) ?_
                refine j_istore G [(7, .int r38), (6, .int r10), (5, .int r8), (4, .int r7), (3, .int x3_5), (2, .int r1), (0, .ref a0), (1, .int x1)] dX10_toils_304 (by decide) rfl ?_
                refine j_goto G 395 dX10_toils_306 (by decide) ?_
                exact Jg.sub [6, 7, 0] rfl (m_X10_toils_p395 G hW a0 x1 r38 k0 I36 h)
            · skip
              by_cases c56 : r7 = (13 : Int32)
              · have h := h.2.2.2.2.2.1 (c56)
                refine j_tableIn G 309 dX10_toils_78 (by rw [c56]; decide) (by rw [c56]; decide) (by rw [c56] <;> rfl) (by decide) ?_
                refine j_aload_n G 6 0 dX10_toils_309 rfl rfl ?_
                refine j_iload_n G 7 1 dX10_toils_310 rfl rfl ?_
                refine j_iload G 1 dX10_toils_311 rfl ?_
                refine j_ci (rn_V G hW (ci := 11) (n := 2) (As := [.int x1, .int r10]) (rest := []) (c_X10_works K hW l a0 x1 r10 k0 I2 J B _ h) k0 (by decide) rfl ml_X10_147 im_X10_works se_X10_works in_X10 co_X10_works rfl (by decide +kernel) rfl rfl (by decide) (by decide) rfl rfl (Nat.le_of_ble_eq_true rfl) dX10_toils_313) (fun r39 I40 h => ?_)
                refine j_istore G [(8, .int r39), (7, .int x7_11), (6, .int r10), (5, .int r8), (4, .int r7), (3, .int x3_5), (2, .int r1), (0, .ref a0), (1, .int x1)] dX10_toils_316 (by decide) rfl ?_
                refine j_aload_n G 7 0 dX10_toils_318 rfl rfl ?_
                refine j_iload_n G 8 1 dX10_toils_319 rfl rfl ?_
                refine j_aload_n G 7 0 dX10_toils_320 rfl rfl ?_
                refine j_iload_n G 8 1 dX10_toils_321 rfl rfl ?_
                refine j_iload_n G 5 3 dX10_toils_322 rfl rfl ?_
                refine j_iconst G (2 : Int32) dX10_toils_323 (by decide) ?_
                refine j_ci (rn_V G hW (ci := 11) (n := 3) (As := [.int x1, .int x3_5, .int (2 : Int32)]) (rest := [.int x1, .ref a0]) (c_X10_of K hW l a0 x1 x3_5 (2 : Int32) k0 I40 J B _ h) k0 (by decide) rfl ml_X10_54 im_X10_of se_X10_of in_X10 co_X10_of rfl (by decide +kernel) rfl rfl (by decide) (by decide) rfl rfl (Nat.le_of_ble_eq_true rfl) dX10_toils_324) (fun r41 _ h => ?_)
                refine j_ci (rn_V G hW (ci := 11) (n := 2) (As := [.int x1, .int r41]) (rest := []) (c_X10_works K hW l a0 x1 r41 k0 I40 J B _ h) k0 (by decide) rfl ml_X10_147 im_X10_works se_X10_works in_X10 co_X10_works rfl (by decide +kernel) rfl rfl (by decide) (by decide) rfl rfl (Nat.le_of_ble_eq_true rfl) dX10_toils_327) (fun r42 I43 h => ?_)
                refine j_istore G [(9, .int r42), (8, .int r39), (7, .int x7_11), (6, .int r10), (5, .int r8), (4, .int r7), (3, .int x3_5), (2, .int r1), (0, .ref a0), (1, .int x1)] dX10_toils_330 (by decide) rfl ?_
                refine j_aload_n G 8 0 dX10_toils_332 rfl rfl ?_
                refine j_iload_n G 9 1 dX10_toils_333 rfl rfl ?_
                refine j_iload_n G 6 3 dX10_toils_334 rfl rfl ?_
                refine j_iconst G (3 : Int32) dX10_toils_335 (by decide) ?_
                refine j_ci (rn_V G hW (ci := 11) (n := 3) (As := [.int x1, .int x3_5, .int (3 : Int32)]) (rest := []) (c_X10_of K hW l a0 x1 x3_5 (3 : Int32) k0 I43 J B _ h) k0 (by decide) rfl ml_X10_54 im_X10_of se_X10_of in_X10 co_X10_of rfl (by decide +kernel) rfl rfl (by decide) (by decide) rfl rfl (Nat.le_of_ble_eq_true rfl) dX10_toils_336) (fun r44 _ h => ?_)
                refine j_iload G 1 dX10_toils_339 rfl ?_
                refine j_iload G 0 dX10_toils_341 rfl ?_
                refine j_ci (rn_S G (n := 3) (As := [.int r44, .int r39, .int r42]) (rest := []) (c_X10_holds K hW l r44 r39 r42 I43 J B _ h) ml_X10_128 st_X10_holds in_X10 co_X10_holds (by decide +kernel) rfl rfl (by decide) (by decide) rfl rfl (Nat.le_of_ble_eq_true rfl) dX10_toils_343) (fun r45 _ h => ?_)
                refine j_istore G [(10, .int r45), (9, .int r42), (8, .int r39), (7, .int x7_11), (6, .int r10), (5, .int r8), (4, .int r7), (3, .int x3_5), (2, .int r1), (0, .ref a0), (1, .int x1)] dX10_toils_346 (by decide) rfl ?_
                refine j_aload_n G 9 0 dX10_toils_348 rfl rfl ?_
                refine j_iload_n G 10 1 dX10_toils_349 rfl rfl ?_
                refine j_iconst G (5 : Int32) dX10_toils_350 (by decide) ?_
                refine j_iload G 0 dX10_toils_351 rfl ?_
                refine j_if_eq G 360 dX10_toils_353 (by decide) (fun c46 => ?_) (fun c46 => ?_)
                · have h := h.1 c46
                  refine j_iconst G (0 : Int32) dX10_toils_360 (by decide) ?_
                  exact Jg.sub [9, 10, 7, 3, 0] rfl (m_X10_toils_p361 G hW a0 x1 x3_5 x7_11 r45 (0 : Int32) (5 : Int32) x1 a0 k0 k0 I43 h)
                · have h := h.2 c46
                  refine j_iconst G (1 : Int32) dX10_toils_356 (by decide) ?_
                  refine j_goto G 361 dX10_toils_357 (by decide) ?_
                  exact Jg.sub [9, 10, 7, 3, 0] rfl (m_X10_toils_p361 G hW a0 x1 x3_5 x7_11 r45 (1 : Int32) (5 : Int32) x1 a0 k0 k0 I43 h)
              · skip
                have h := h.2.2.2.2.2.2 c51 c52 c53 c54 c55 c56
                by_cases c57 : r7 = (3 : Int32)
                · refine j_tableIn G 388 dX10_toils_78 (by rw [c57]; decide) (by rw [c57]; decide) (by rw [c57] <;> rfl) (by decide) ?_
                  refine j_aload_n G 6 0 dX10_toils_388 rfl rfl ?_
                  refine j_iload_n G 7 1 dX10_toils_389 rfl rfl ?_
                  refine j_iconst G (1 : Int32) dX10_toils_390 (by decide) ?_
                  refine j_cv (rn_V G hW (ci := 11) (n := 2) (As := [.int x1, .int (1 : Int32)]) (rest := []) (c_X10_ends K hW l a0 x1 (1 : Int32) k0 I2 J B _ h) k0 (by decide) rfl ml_X10_132 im_X10_ends se_X10_ends in_X10 co_X10_ends rfl (by decide +kernel) rfl rfl (by decide) (by decide) rfl rfl (Nat.le_of_ble_eq_true rfl) dX10_toils_391) (fun I50 h => ?_)
                  exact j_retv G I50 dX10_toils_394 h rfl
                · skip
                  by_cases c58 : r7 = (4 : Int32)
                  · refine j_tableIn G 388 dX10_toils_78 (by rw [c58]; decide) (by rw [c58]; decide) (by rw [c58] <;> rfl) (by decide) ?_
                    refine j_aload_n G 6 0 dX10_toils_388 rfl rfl ?_
                    refine j_iload_n G 7 1 dX10_toils_389 rfl rfl ?_
                    refine j_iconst G (1 : Int32) dX10_toils_390 (by decide) ?_
                    refine j_cv (rn_V G hW (ci := 11) (n := 2) (As := [.int x1, .int (1 : Int32)]) (rest := []) (c_X10_ends K hW l a0 x1 (1 : Int32) k0 I2 J B _ h) k0 (by decide) rfl ml_X10_132 im_X10_ends se_X10_ends in_X10 co_X10_ends rfl (by decide +kernel) rfl rfl (by decide) (by decide) rfl rfl (Nat.le_of_ble_eq_true rfl) dX10_toils_391) (fun I50 h => ?_)
                    exact j_retv G I50 dX10_toils_394 h rfl
                  · skip
                    by_cases c59 : r7 = (6 : Int32)
                    · refine j_tableIn G 388 dX10_toils_78 (by rw [c59]; decide) (by rw [c59]; decide) (by rw [c59] <;> rfl) (by decide) ?_
                      refine j_aload_n G 6 0 dX10_toils_388 rfl rfl ?_
                      refine j_iload_n G 7 1 dX10_toils_389 rfl rfl ?_
                      refine j_iconst G (1 : Int32) dX10_toils_390 (by decide) ?_
                      refine j_cv (rn_V G hW (ci := 11) (n := 2) (As := [.int x1, .int (1 : Int32)]) (rest := []) (c_X10_ends K hW l a0 x1 (1 : Int32) k0 I2 J B _ h) k0 (by decide) rfl ml_X10_132 im_X10_ends se_X10_ends in_X10 co_X10_ends rfl (by decide +kernel) rfl rfl (by decide) (by decide) rfl rfl (Nat.le_of_ble_eq_true rfl) dX10_toils_391) (fun I50 h => ?_)
                      exact j_retv G I50 dX10_toils_394 h rfl
                    · skip
                      by_cases c60 : r7 = (7 : Int32)
                      · refine j_tableIn G 388 dX10_toils_78 (by rw [c60]; decide) (by rw [c60]; decide) (by rw [c60] <;> rfl) (by decide) ?_
                        refine j_aload_n G 6 0 dX10_toils_388 rfl rfl ?_
                        refine j_iload_n G 7 1 dX10_toils_389 rfl rfl ?_
                        refine j_iconst G (1 : Int32) dX10_toils_390 (by decide) ?_
                        refine j_cv (rn_V G hW (ci := 11) (n := 2) (As := [.int x1, .int (1 : Int32)]) (rest := []) (c_X10_ends K hW l a0 x1 (1 : Int32) k0 I2 J B _ h) k0 (by decide) rfl ml_X10_132 im_X10_ends se_X10_ends in_X10 co_X10_ends rfl (by decide +kernel) rfl rfl (by decide) (by decide) rfl rfl (Nat.le_of_ble_eq_true rfl) dX10_toils_391) (fun I50 h => ?_)
                        exact j_retv G I50 dX10_toils_394 h rfl
                      · skip
                        by_cases c61 : r7 = (10 : Int32)
                        · refine j_tableIn G 388 dX10_toils_78 (by rw [c61]; decide) (by rw [c61]; decide) (by rw [c61] <;> rfl) (by decide) ?_
                          refine j_aload_n G 6 0 dX10_toils_388 rfl rfl ?_
                          refine j_iload_n G 7 1 dX10_toils_389 rfl rfl ?_
                          refine j_iconst G (1 : Int32) dX10_toils_390 (by decide) ?_
                          refine j_cv (rn_V G hW (ci := 11) (n := 2) (As := [.int x1, .int (1 : Int32)]) (rest := []) (c_X10_ends K hW l a0 x1 (1 : Int32) k0 I2 J B _ h) k0 (by decide) rfl ml_X10_132 im_X10_ends se_X10_ends in_X10 co_X10_ends rfl (by decide +kernel) rfl rfl (by decide) (by decide) rfl rfl (Nat.le_of_ble_eq_true rfl) dX10_toils_391) (fun I50 h => ?_)
                          exact j_retv G I50 dX10_toils_394 h rfl
                        · skip
                          by_cases c62 : r7 = (12 : Int32)
                          · refine j_tableIn G 388 dX10_toils_78 (by rw [c62]; decide) (by rw [c62]; decide) (by rw [c62] <;> rfl) (by decide) ?_
                            refine j_aload_n G 6 0 dX10_toils_388 rfl rfl ?_
                            refine j_iload_n G 7 1 dX10_toils_389 rfl rfl ?_
                            refine j_iconst G (1 : Int32) dX10_toils_390 (by decide) ?_
                            refine j_cv (rn_V G hW (ci := 11) (n := 2) (As := [.int x1, .int (1 : Int32)]) (rest := []) (c_X10_ends K hW l a0 x1 (1 : Int32) k0 I2 J B _ h) k0 (by decide) rfl ml_X10_132 im_X10_ends se_X10_ends in_X10 co_X10_ends rfl (by decide +kernel) rfl rfl (by decide) (by decide) rfl rfl (Nat.le_of_ble_eq_true rfl) dX10_toils_391) (fun I50 h => ?_)
                            exact j_retv G I50 dX10_toils_394 h rfl
                          · skip
                            have nc51 := sw_ne (n := 2) rfl c51
                            have nc57 := sw_ne (n := 3) rfl c57
                            have nc58 := sw_ne (n := 4) rfl c58
                            have nc52 := sw_ne (n := 5) rfl c52
                            have nc59 := sw_ne (n := 6) rfl c59
                            have nc60 := sw_ne (n := 7) rfl c60
                            have nc53 := sw_ne (n := 8) rfl c53
                            have nc54 := sw_ne (n := 9) rfl c54
                            have nc61 := sw_ne (n := 10) rfl c61
                            have nc55 := sw_ne (n := 11) rfl c55
                            have nc62 := sw_ne (n := 12) rfl c62
                            have nc56 := sw_ne (n := 13) rfl c56
                            refine j_tableOut G 388 dX10_toils_78 (by omega) (by decide) ?_
                            refine j_aload_n G 6 0 dX10_toils_388 rfl rfl ?_
                            refine j_iload_n G 7 1 dX10_toils_389 rfl rfl ?_
                            refine j_iconst G (1 : Int32) dX10_toils_390 (by decide) ?_
                            refine j_cv (rn_V G hW (ci := 11) (n := 2) (As := [.int x1, .int (1 : Int32)]) (rest := []) (c_X10_ends K hW l a0 x1 (1 : Int32) k0 I2 J B _ h) k0 (by decide) rfl ml_X10_132 im_X10_ends se_X10_ends in_X10 co_X10_ends rfl (by decide +kernel) rfl rfl (by decide) (by decide) rfl rfl (Nat.le_of_ble_eq_true rfl) dX10_toils_391) (fun I50 h => ?_)
                            exact j_retv G I50 dX10_toils_394 h rfl
  · have h := h.2 c9
    refine j_aload_n G 4 0 dX10_toils_53 rfl rfl ?_
    refine j_iload_n G 5 1 dX10_toils_54 rfl rfl ?_
    refine j_iconst G (1 : Int32) dX10_toils_55 (by decide) ?_
    refine j_iload G 0 dX10_toils_56 rfl ?_
    refine j_cv (rn_V G hW (ci := 11) (n := 3) (As := [.int x1, .int (1 : Int32), .int r8]) (rest := []) (c_X10_waits K hW l a0 x1 (1 : Int32) r8 k0 I2 J B _ h) k0 (by decide) rfl ml_X10_115 im_X10_waits se_X10_waits in_X10 co_X10_waits rfl (by decide +kernel) rfl rfl (by decide) (by decide) rfl rfl (Nat.le_of_ble_eq_true rfl) dX10_toils_58) (fun I63 h => ?_)
    exact j_retv G I63 dX10_toils_61 h rfl
abbrev rm_X10_slip : Room := { frames := 1, cells := 0, slots := 0, locals := 21 }
def w_X10_slip (a0 : Nat) (x1 : Int32) (I : MI) (Q : Int32 →  Prop) : Prop :=
(w_X10_sideAt x1 (0 : Int32) (fun r2 =>
(vp_in (r2 + (3 : Int32)) 4905 ∧
(w_X10_sideAt x1 (1 : Int32) (fun r4 =>
(vp_in (r4 + (3 : Int32)) 4905 ∧
Q ((I (a0 + 1) (ix (r2 + (3 : Int32)))) - (I (a0 + 1) (ix (r4 + (3 : Int32)))))))))))
set_option maxHeartbeats 4000000 in
set_option maxRecDepth 100000 in
theorem c_X10_slip (K : Kx) (hW : WFK K) (l : Launch) (a0 : Nat) (x1 : Int32) (k0 : (kG K a0).1 = 12) (I : MI) (J : MJ) (B : MR) (Q : Int32 →  Prop) (h : w_X10_slip a0 x1 I Q) : Con K l yX10_slip (wsT yX10_slip cX10_slip 2 (some .int)) rm_X10_slip [.ref a0, .int x1] (I, J, B) (va_Qi (S := Unit) (fun r _ => Q r) (fun u t => HP K (I, J, B) t.heap) (AA K)) := by
  refine Con.ofJ RX10 rfl (by decide) (Nat.le_of_ble_eq_true rfl) (fun m H0 w G => ?_)
  unfold w_X10_slip at h
  show Jg K m 2 H0 w 0 [(0, .ref a0), (1, .int x1)] [] (I, J, B)
  refine j_aload_n G 0 0 dX10_slip_0 rfl rfl ?_
  have kk1 : kG K (a0 + 1) = (20, 4905) := wk_12_1 hW k0
  refine j_get G hW 11 0 4 (.ref (a0 + 1)) k0 (by decide) rfl (by decide) rfl lay_X10 fl_X10_7 rfl rfl dX10_slip_1 ?_
  refine j_iload_n G 1 1 dX10_slip_4 rfl rfl ?_
  refine j_iconst G (0 : Int32) dX10_slip_5 (by decide) ?_
  refine j_ci (rn_S G (n := 2) (As := [.int x1, .int (0 : Int32)]) (rest := [.ref (a0 + 1)]) (c_X10_sideAt K hW l x1 (0 : Int32) I J B _ h) ml_X10_98 st_X10_sideAt in_X10 co_X10_sideAt (by decide +kernel) rfl rfl (by decide) (by decide) rfl rfl (Nat.le_of_ble_eq_true rfl) dX10_slip_6) (fun r2 _ h => ?_)
  refine j_iconst G (3 : Int32) dX10_slip_9 (by decide) ?_
  refine j_iadd G dX10_slip_10 ?_
  obtain ⟨b3, h⟩ := h
  refine j_iald G hW kk1 b3 dX10_slip_11 ?_
  refine j_aload_n G 0 0 dX10_slip_12 rfl rfl ?_
  refine j_get G hW 11 0 4 (.ref (a0 + 1)) k0 (by decide) rfl (by decide) rfl lay_X10 fl_X10_7 rfl rfl dX10_slip_13 ?_
  refine j_iload_n G 1 1 dX10_slip_16 rfl rfl ?_
  refine j_iconst G (1 : Int32) dX10_slip_17 (by decide) ?_
  refine j_ci (rn_S G (n := 2) (As := [.int x1, .int (1 : Int32)]) (rest := [.ref (a0 + 1), .int (I (a0 + 1) (ix (r2 + (3 : Int32))))]) (c_X10_sideAt K hW l x1 (1 : Int32) I J B _ h) ml_X10_98 st_X10_sideAt in_X10 co_X10_sideAt (by decide +kernel) rfl rfl (by decide) (by decide) rfl rfl (Nat.le_of_ble_eq_true rfl) dX10_slip_18) (fun r4 _ h => ?_)
  refine j_iconst G (3 : Int32) dX10_slip_21 (by decide) ?_
  refine j_iadd G dX10_slip_22 ?_
  obtain ⟨b5, h⟩ := h
  refine j_iald G hW kk1 b5 dX10_slip_23 ?_
  refine j_isub G dX10_slip_24 ?_
  exact j_reti G () rfl dX10_slip_25 h rfl
abbrev rm_X10_isEnded : Room := { frames := 1, cells := 0, slots := 0, locals := 21 }
def w_X10_isEnded (a0 : Nat) (x1 : Int32) (x2 : Int32) (I : MI) (Q : Int32 →  Prop) : Prop :=
(w_X10_sideAt x1 x2 (fun r2 =>
(vp_in (r2 + (4 : Int32)) 4905 ∧
((¬ (I (a0 + 1) (ix (r2 + (4 : Int32)))) = (1 : Int32) → Q (0 : Int32)) ∧
((I (a0 + 1) (ix (r2 + (4 : Int32)))) = (1 : Int32) → Q (1 : Int32))))))
set_option maxHeartbeats 4000000 in
set_option maxRecDepth 100000 in
theorem c_X10_isEnded (K : Kx) (hW : WFK K) (l : Launch) (a0 : Nat) (x1 : Int32) (x2 : Int32) (k0 : (kG K a0).1 = 12) (I : MI) (J : MJ) (B : MR) (Q : Int32 →  Prop) (h : w_X10_isEnded a0 x1 x2 I Q) : Con K l yX10_isEnded (wsT yX10_isEnded cX10_isEnded 3 (some .boolean)) rm_X10_isEnded [.ref a0, .int x1, .int x2] (I, J, B) (va_Qi (S := Unit) (fun r _ => Q r) (fun u t => HP K (I, J, B) t.heap) (AA K)) := by
  refine Con.ofJ RX10 rfl (by decide) (Nat.le_of_ble_eq_true rfl) (fun m H0 w G => ?_)
  unfold w_X10_isEnded at h
  show Jg K m 3 H0 w 0 [(0, .ref a0), (1, .int x1), (2, .int x2)] [] (I, J, B)
  refine j_aload_n G 0 0 dX10_isEnded_0 rfl rfl ?_
  have kk1 : kG K (a0 + 1) = (20, 4905) := wk_12_1 hW k0
  refine j_get G hW 11 0 4 (.ref (a0 + 1)) k0 (by decide) rfl (by decide) rfl lay_X10 fl_X10_7 rfl rfl dX10_isEnded_1 ?_
  refine j_iload_n G 1 1 dX10_isEnded_4 rfl rfl ?_
  refine j_iload_n G 2 2 dX10_isEnded_5 rfl rfl ?_
  refine j_ci (rn_S G (n := 2) (As := [.int x1, .int x2]) (rest := [.ref (a0 + 1)]) (c_X10_sideAt K hW l x1 x2 I J B _ h) ml_X10_98 st_X10_sideAt in_X10 co_X10_sideAt (by decide +kernel) rfl rfl (by decide) (by decide) rfl rfl (Nat.le_of_ble_eq_true rfl) dX10_isEnded_6) (fun r2 _ h => ?_)
  refine j_iconst G (4 : Int32) dX10_isEnded_9 (by decide) ?_
  refine j_iadd G dX10_isEnded_10 ?_
  obtain ⟨b3, h⟩ := h
  refine j_iald G hW kk1 b3 dX10_isEnded_11 ?_
  refine j_iconst G (1 : Int32) dX10_isEnded_12 (by decide) ?_
  refine j_icmp_ne G 20 dX10_isEnded_13 (by decide) (fun c4 => ?_) (fun c4 => ?_)
  · have h := h.1 c4
    refine j_iconst G (0 : Int32) dX10_isEnded_20 (by decide) ?_
    exact j_reti G () (by decide) dX10_isEnded_21 h rfl
  · have h := h.2 c4
    refine j_iconst G (1 : Int32) dX10_isEnded_16 (by decide) ?_
    refine j_goto G 21 dX10_isEnded_17 (by decide) ?_
    exact j_reti G () (by decide) dX10_isEnded_21 h rfl
abbrev rm_X10_haveCome : Room := { frames := 2, cells := 0, slots := 0, locals := 43 }
def w_X10_haveCome_l2 (a0 : Nat) (x1 : Int32) (I : MI)  (Q : Int32 →  Prop) (rec : Int32 → Prop) (x2 : Int32) : Prop :=
(w_X10_inQueue a0 x1 (0 : Int32) I (fun r1 =>
((r1 ≤ x2 → Q (1 : Int32)) ∧
(¬ r1 ≤ x2 → (w_X10_hasCome a0 x1 x2 I (fun r3 =>
((¬ r3 = 0 → rec (x2 + 1)) ∧
(r3 = 0 → Q (0 : Int32)))))))))
set_option maxHeartbeats 4000000 in
set_option maxRecDepth 100000 in
theorem m_X10_haveCome_l2 {K : Kx} {l : Launch} {m : MethodId} {H0 : Heap} {Q : Int32 →  Prop} {w : HW} {I : MI} {J : MJ} {B : MR} (G : Gd l rm_X10_haveCome K m RX10 cX10_haveCome 3 H0 (some .boolean) (va_Qi (S := Unit) (fun r _ => Q r) (fun u t => HP K (I, J, B) t.heap) (AA K)) w) (hW : WFK K) (a0 : Nat) (x1 : Int32) (x2 : Int32) (ka0 : (kG K a0).1 = 12)    (h : Lp1 (w_X10_haveCome_l2 a0 x1 I Q) x2) : Jg K m 3 H0 w 2 [(0, .ref a0), (1, .int x1), (2, .int x2)] [] (I, J, B) := by
  obtain ⟨n, h⟩ := h
  refine lpN1_ind (P := (fun (x2 : Int32) => Jg K m 3 H0 w 2 [(0, .ref a0), (1, .int x1), (2, .int x2)] [] (I, J, B))) (fun rec hrec x2 h => ?_) n x2 h
  unfold w_X10_haveCome_l2 at h
  refine j_iload_n G 2 2 dX10_haveCome_2 rfl rfl ?_
  refine j_aload_n G 0 0 dX10_haveCome_3 rfl rfl ?_
  refine j_iload_n G 1 1 dX10_haveCome_4 rfl rfl ?_
  refine j_iconst G (0 : Int32) dX10_haveCome_5 (by decide) ?_
  refine j_ci (rn_V G hW (ci := 11) (n := 2) (As := [.int x1, .int (0 : Int32)]) (rest := [.int x2]) (c_X10_inQueue K hW l a0 x1 (0 : Int32) ka0 I J B _ h) ka0 (by decide) rfl ml_X10_86 im_X10_inQueue se_X10_inQueue in_X10 co_X10_inQueue rfl (by decide +kernel) rfl rfl (by decide) (by decide) rfl rfl (Nat.le_of_ble_eq_true rfl) dX10_haveCome_6) (fun r1 _ h => ?_)
  refine j_icmp_ge G 29 dX10_haveCome_9 (by decide) (fun c2 => ?_) (fun c2 => ?_)
  · have h := h.1 c2
    refine j_iconst G (1 : Int32) dX10_haveCome_29 (by decide) ?_
    exact j_reti G () (by decide) dX10_haveCome_30 h rfl
  · have h := h.2 c2
    refine j_aload_n G 0 0 dX10_haveCome_12 rfl rfl ?_
    refine j_iload_n G 1 1 dX10_haveCome_13 rfl rfl ?_
    refine j_iload_n G 2 2 dX10_haveCome_14 rfl rfl ?_
    refine j_ci (rn_V G hW (ci := 11) (n := 2) (As := [.int x1, .int x2]) (rest := []) (c_X10_hasCome K hW l a0 x1 x2 ka0 I J B _ h) ka0 (by decide) rfl ml_X10_150 im_X10_hasCome se_X10_hasCome in_X10 co_X10_hasCome rfl (by decide +kernel) rfl rfl (by decide) (by decide) rfl rfl (Nat.le_of_ble_eq_true rfl) dX10_haveCome_15) (fun r3 _ h => ?_)
    refine j_if_ne G 23 dX10_haveCome_18 (by decide) (fun c4 => ?_) (fun c4 => ?_)
    · have h := h.1 c4
      refine j_iinc G 2 (x2 + 1) [(2, .int (x2 + 1)), (0, .ref a0), (1, .int x1)] dX10_haveCome_23 rfl rfl (by decide) rfl ?_
      refine j_goto G 2 dX10_haveCome_26 (by decide) ?_
      exact Jg.sub [1, 2, 0] rfl (hrec (x2 + 1) h)
    · have h := h.2 c4
      refine j_iconst G (0 : Int32) dX10_haveCome_21 (by decide) ?_
      exact j_reti G () (by decide) dX10_haveCome_22 h rfl
def w_X10_haveCome (a0 : Nat) (x1 : Int32) (I : MI) (Q : Int32 →  Prop) : Prop :=
Lp1 (w_X10_haveCome_l2 a0 x1 I Q) (0 : Int32)
set_option maxHeartbeats 4000000 in
set_option maxRecDepth 100000 in
theorem c_X10_haveCome (K : Kx) (hW : WFK K) (l : Launch) (a0 : Nat) (x1 : Int32) (k0 : (kG K a0).1 = 12) (I : MI) (J : MJ) (B : MR) (Q : Int32 →  Prop) (h : w_X10_haveCome a0 x1 I Q) : Con K l yX10_haveCome (wsT yX10_haveCome cX10_haveCome 3 (some .boolean)) rm_X10_haveCome [.ref a0, .int x1] (I, J, B) (va_Qi (S := Unit) (fun r _ => Q r) (fun u t => HP K (I, J, B) t.heap) (AA K)) := by
  refine Con.ofJ RX10 rfl (by decide) (Nat.le_of_ble_eq_true rfl) (fun m H0 w G => ?_)
  unfold w_X10_haveCome at h
  show Jg K m 3 H0 w 0 [(0, .ref a0), (1, .int x1)] [] (I, J, B)
  refine j_iconst G (0 : Int32) dX10_haveCome_0 (by decide) ?_
  refine j_istore_n G 2 [(2, .int (0 : Int32)), (0, .ref a0), (1, .int x1)] dX10_haveCome_1 rfl (by decide) rfl ?_
  refine Jg.sub [1, 2, 0] rfl (m_X10_haveCome_l2 G hW a0 x1 (0 : Int32) k0 h)
abbrev rm_X10_cycle : Room := { frames := 7, cells := 0, slots := 0, locals := 175 }
def w_X10_cycle_p319 (a0 : Nat) (x1 : Int32) (x5 : Int32) (s0 : Int32) (I : MI)  (Q : MI → Prop) : Prop :=
((s0 = 0 → ((x5 = 0 → (vp_in (x1 + (170 : Int32)) 4905 ∧
((¬ (I (a0 + 1) (ix (x1 + (170 : Int32)))) = (999 : Int32) → (vp_in (x1 + (171 : Int32)) 4905 ∧
(∀ I50, I50 = ui I (a0 + 1) (ix (x1 + (171 : Int32))) (0 : Int32) →
Q I50))) ∧
((I (a0 + 1) (ix (x1 + (170 : Int32)))) = (999 : Int32) → (vp_in (x1 + (171 : Int32)) 4905 ∧
(∀ I52, I52 = ui I (a0 + 1) (ix (x1 + (171 : Int32))) (3 : Int32) →
Q I52)))))) ∧
(¬ x5 = 0 → (vp_in (x1 + (171 : Int32)) 4905 ∧
(∀ I54, I54 = ui I (a0 + 1) (ix (x1 + (171 : Int32))) (2 : Int32) →
Q I54))))) ∧
(¬ s0 = 0 → (vp_in (x1 + (171 : Int32)) 4905 ∧
(∀ I56, I56 = ui I (a0 + 1) (ix (x1 + (171 : Int32))) (1 : Int32) →
Q I56))))
set_option maxHeartbeats 4000000 in
set_option maxRecDepth 100000 in
theorem m_X10_cycle_p319 {K : Kx} {l : Launch} {m : MethodId} {H0 : Heap} {Q : MI → Prop} {w : HW} {J : MJ} {B : MR} (G : Gd l rm_X10_cycle K m RX10 cX10_cycle 7 H0 none (va_Qv (S := MI) Q (fun u t => HP K (u, J, B) t.heap) (AA K)) w) (hW : WFK K) (a0 : Nat) (x1 : Int32) (x5 : Int32) (s0 : Int32) (ka0 : (kG K a0).1 = 12)  (I : MI)   (h : w_X10_cycle_p319 a0 x1 x5 s0 I Q) : Jg K m 7 H0 w 319 [(0, .ref a0), (1, .int x1), (5, .int x5)] [.int s0] (I, J, B) := by
  unfold w_X10_cycle_p319 at h
  refine j_istore G [(6, .int s0), (0, .ref a0), (1, .int x1), (5, .int x5)] dX10_cycle_319 (by decide) rfl ?_
  refine j_aload_n G 1 0 dX10_cycle_321 rfl rfl ?_
  have kk44 : kG K (a0 + 1) = (20, 4905) := wk_12_1 hW ka0
  refine j_get G hW 11 0 4 (.ref (a0 + 1)) ka0 (by decide) rfl (by decide) rfl lay_X10 fl_X10_7 rfl rfl dX10_cycle_322 ?_
  refine j_iload_n G 2 1 dX10_cycle_325 rfl rfl ?_
  refine j_sipush G (171 : Int32) dX10_cycle_326 (by decide) ?_
  refine j_iadd G dX10_cycle_329 ?_
  refine j_iload G 0 dX10_cycle_330 rfl ?_
  refine j_if_eq G 339 dX10_cycle_332 (by decide) (fun c45 => ?_) (fun c45 => ?_)
  · have h := h.1 c45
    refine j_iload G 3 dX10_cycle_339 rfl ?_
    refine j_if_eq G 348 dX10_cycle_341 (by decide) (fun c46 => ?_) (fun c46 => ?_)
    · have h := h.1 c46
      refine j_aload_n G 1 0 dX10_cycle_348 rfl rfl ?_
      refine j_get G hW 11 0 4 (.ref (a0 + 1)) ka0 (by decide) rfl (by decide) rfl lay_X10 fl_X10_7 rfl rfl dX10_cycle_349 ?_
      refine j_iload_n G 2 1 dX10_cycle_352 rfl rfl ?_
      refine j_sipush G (170 : Int32) dX10_cycle_353 (by decide) ?_
      refine j_iadd G dX10_cycle_356 ?_
      obtain ⟨b47, h⟩ := h
      refine j_iald G hW kk44 b47 dX10_cycle_357 ?_
      refine j_sipush G (999 : Int32) dX10_cycle_358 (by decide) ?_
      refine j_icmp_ne G 368 dX10_cycle_361 (by decide) (fun c48 => ?_) (fun c48 => ?_)
      · have h := h.1 c48
        refine j_iconst G (0 : Int32) dX10_cycle_368 (by decide) ?_
        obtain ⟨b49, h⟩ := h
        refine j_iast G hW kk44 b49 dX10_cycle_369 ?_
        refine j_mI (fun I50 eI50 => ?_)
        have h := h I50 eI50
        exact j_retv G I50 dX10_cycle_370 h rfl
      · have h := h.2 c48
        refine j_iconst G (3 : Int32) dX10_cycle_364 (by decide) ?_
        refine j_goto G 369 dX10_cycle_365 (by decide) ?_
        obtain ⟨b51, h⟩ := h
        refine j_iast G hW kk44 b51 dX10_cycle_369 ?_
        refine j_mI (fun I52 eI52 => ?_)
        have h := h I52 eI52
        exact j_retv G I52 dX10_cycle_370 h rfl
    · have h := h.2 c46
      refine j_iconst G (2 : Int32) dX10_cycle_344 (by decide) ?_
      refine j_goto G 369 dX10_cycle_345 (by decide) ?_
      obtain ⟨b53, h⟩ := h
      refine j_iast G hW kk44 b53 dX10_cycle_369 ?_
      refine j_mI (fun I54 eI54 => ?_)
      have h := h I54 eI54
      exact j_retv G I54 dX10_cycle_370 h rfl
  · have h := h.2 c45
    refine j_iconst G (1 : Int32) dX10_cycle_335 (by decide) ?_
    refine j_goto G 369 dX10_cycle_336 (by decide) ?_
    obtain ⟨b55, h⟩ := h
    refine j_iast G hW kk44 b55 dX10_cycle_369 ?_
    refine j_mI (fun I56 eI56 => ?_)
    have h := h I56 eI56
    exact j_retv G I56 dX10_cycle_370 h rfl
def w_X10_cycle_p285 (a0 : Nat) (x1 : Int32) (s0 : Int32) (I : MI)  (Q : MI → Prop) : Prop :=
(w_X10_isEnded a0 x1 (0 : Int32) I (fun r42 =>
((r42 = 0 → w_X10_cycle_p319 a0 x1 s0 (0 : Int32) I Q) ∧
(¬ r42 = 0 → (w_X10_isEnded a0 x1 (1 : Int32) I (fun r57 =>
((r57 = 0 → w_X10_cycle_p319 a0 x1 s0 (0 : Int32) I Q) ∧
(¬ r57 = 0 → (w_X10_inQueue a0 x1 (1 : Int32) I (fun r59 =>
((¬ r59 = 0 → w_X10_cycle_p319 a0 x1 s0 (0 : Int32) I Q) ∧
(r59 = 0 → w_X10_cycle_p319 a0 x1 s0 (1 : Int32) I Q))))))))))))
set_option maxHeartbeats 4000000 in
set_option maxRecDepth 100000 in
theorem m_X10_cycle_p285 {K : Kx} {l : Launch} {m : MethodId} {H0 : Heap} {Q : MI → Prop} {w : HW} {J : MJ} {B : MR} (G : Gd l rm_X10_cycle K m RX10 cX10_cycle 7 H0 none (va_Qv (S := MI) Q (fun u t => HP K (u, J, B) t.heap) (AA K)) w) (hW : WFK K) (a0 : Nat) (x1 : Int32) (s0 : Int32) (ka0 : (kG K a0).1 = 12)  (I : MI)   (h : w_X10_cycle_p285 a0 x1 s0 I Q) : Jg K m 7 H0 w 285 [(0, .ref a0), (1, .int x1)] [.int s0] (I, J, B) := by
  unfold w_X10_cycle_p285 at h
  refine j_istore G [(5, .int s0), (0, .ref a0), (1, .int x1)] dX10_cycle_285 (by decide) rfl ?_
  refine j_aload_n G 1 0 dX10_cycle_287 rfl rfl ?_
  refine j_iload_n G 2 1 dX10_cycle_288 rfl rfl ?_
  refine j_iconst G (0 : Int32) dX10_cycle_289 (by decide) ?_
  refine j_ci (rn_V G hW (ci := 11) (n := 2) (As := [.int x1, .int (0 : Int32)]) (rest := []) (c_X10_isEnded K hW l a0 x1 (0 : Int32) ka0 I J B _ h) ka0 (by decide) rfl ml_X10_156 im_X10_isEnded se_X10_isEnded in_X10 co_X10_isEnded rfl (by decide +kernel) rfl rfl (by decide) (by decide) rfl rfl (Nat.le_of_ble_eq_true rfl) dX10_cycle_290) (fun r42 _ h => ?_)
  refine j_if_eq G 318 dX10_cycle_293 (by decide) (fun c43 => ?_) (fun c43 => ?_)
  · have h := h.1 c43
    refine j_iconst G (0 : Int32) dX10_cycle_318 (by decide) ?_
    exact Jg.sub [1, 2, 0] rfl (m_X10_cycle_p319 G hW a0 x1 s0 (0 : Int32) ka0 I h)
  · have h := h.2 c43
    refine j_aload_n G 1 0 dX10_cycle_296 rfl rfl ?_
    refine j_iload_n G 2 1 dX10_cycle_297 rfl rfl ?_
    refine j_iconst G (1 : Int32) dX10_cycle_298 (by decide) ?_
    refine j_ci (rn_V G hW (ci := 11) (n := 2) (As := [.int x1, .int (1 : Int32)]) (rest := []) (c_X10_isEnded K hW l a0 x1 (1 : Int32) ka0 I J B _ h) ka0 (by decide) rfl ml_X10_156 im_X10_isEnded se_X10_isEnded in_X10 co_X10_isEnded rfl (by decide +kernel) rfl rfl (by decide) (by decide) rfl rfl (Nat.le_of_ble_eq_true rfl) dX10_cycle_299) (fun r57 _ h => ?_)
    refine j_if_eq G 318 dX10_cycle_302 (by decide) (fun c58 => ?_) (fun c58 => ?_)
    · have h := h.1 c58
      refine j_iconst G (0 : Int32) dX10_cycle_318 (by decide) ?_
      exact Jg.sub [1, 2, 0] rfl (m_X10_cycle_p319 G hW a0 x1 s0 (0 : Int32) ka0 I h)
    · have h := h.2 c58
      refine j_aload_n G 1 0 dX10_cycle_305 rfl rfl ?_
      refine j_iload_n G 2 1 dX10_cycle_306 rfl rfl ?_
      refine j_iconst G (1 : Int32) dX10_cycle_307 (by decide) ?_
      refine j_ci (rn_V G hW (ci := 11) (n := 2) (As := [.int x1, .int (1 : Int32)]) (rest := []) (c_X10_inQueue K hW l a0 x1 (1 : Int32) ka0 I J B _ h) ka0 (by decide) rfl ml_X10_86 im_X10_inQueue se_X10_inQueue in_X10 co_X10_inQueue rfl (by decide +kernel) rfl rfl (by decide) (by decide) rfl rfl (Nat.le_of_ble_eq_true rfl) dX10_cycle_308) (fun r59 _ h => ?_)
      refine j_if_ne G 318 dX10_cycle_311 (by decide) (fun c60 => ?_) (fun c60 => ?_)
      · have h := h.1 c60
        refine j_iconst G (0 : Int32) dX10_cycle_318 (by decide) ?_
        exact Jg.sub [1, 2, 0] rfl (m_X10_cycle_p319 G hW a0 x1 s0 (0 : Int32) ka0 I h)
      · have h := h.2 c60
        refine j_iconst G (1 : Int32) dX10_cycle_314 (by decide) ?_
        refine j_goto G 319 dX10_cycle_315 (by decide) ?_
        exact Jg.sub [1, 2, 0] rfl (m_X10_cycle_p319 G hW a0 x1 s0 (1 : Int32) ka0 I h)
def w_X10_cycle_p196 (a0 : Nat) (x1 : Int32) (x2 : Int32) (x3 : Int32) (x4 : Int32) (s0 : Int32) (s1 : Int32) (o2 : Nat) (I : MI)  (Q : MI → Prop) : Prop :=
(vp_in s1 4905 ∧
(∀ I35, I35 = ui I o2 (ix s1) s0 →
(vp_in (x1 + (220 : Int32)) 4905 ∧
(vp_in (x1 + (220 : Int32)) 4905 ∧
(∀ I39, I39 = ui I35 (a0 + 1) (ix (x1 + (220 : Int32))) ((I35 (a0 + 1) (ix (x1 + (220 : Int32)))) + x4) →
(vp_in (x1 + (221 : Int32)) 4905 ∧
((¬ x2 = (I39 (a0 + 1) (ix (x1 + (221 : Int32)))) → w_X10_cycle_p285 a0 x1 (0 : Int32) I39 Q) ∧
(x2 = (I39 (a0 + 1) (ix (x1 + (221 : Int32)))) → (w_X10_sideAt x1 (0 : Int32) (fun r61 =>
(vp_in (r61 + (2 : Int32)) 4905 ∧
(w_X10_sideAt x1 (1 : Int32) (fun r63 =>
(vp_in (r63 + (2 : Int32)) 4905 ∧
((¬ x3 = ((I39 (a0 + 1) (ix (r61 + (2 : Int32)))) + (I39 (a0 + 1) (ix (r63 + (2 : Int32))))) → w_X10_cycle_p285 a0 x1 (0 : Int32) I39 Q) ∧
(x3 = ((I39 (a0 + 1) (ix (r61 + (2 : Int32)))) + (I39 (a0 + 1) (ix (r63 + (2 : Int32))))) → (w_X10_sideAt x1 (0 : Int32) (fun r66 =>
(vp_in (r66 + (5 : Int32)) 4905 ∧
(((I39 (a0 + 1) (ix (r66 + (5 : Int32)))) = (7 : Int32) → w_X10_cycle_p285 a0 x1 (0 : Int32) I39 Q) ∧
(¬ (I39 (a0 + 1) (ix (r66 + (5 : Int32)))) = (7 : Int32) → (w_X10_haveCome a0 x1 I39 (fun r69 =>
((r69 = 0 → w_X10_cycle_p285 a0 x1 (0 : Int32) I39 Q) ∧
(¬ r69 = 0 → w_X10_cycle_p285 a0 x1 (1 : Int32) I39 Q)))))))))))))))))))))))))
set_option maxHeartbeats 4000000 in
set_option maxRecDepth 100000 in
theorem m_X10_cycle_p196 {K : Kx} {l : Launch} {m : MethodId} {H0 : Heap} {Q : MI → Prop} {w : HW} {J : MJ} {B : MR} (G : Gd l rm_X10_cycle K m RX10 cX10_cycle 7 H0 none (va_Qv (S := MI) Q (fun u t => HP K (u, J, B) t.heap) (AA K)) w) (hW : WFK K) (a0 : Nat) (x1 : Int32) (x2 : Int32) (x3 : Int32) (x4 : Int32) (s0 : Int32) (s1 : Int32) (o2 : Nat) (ka0 : (kG K a0).1 = 12) (ko2 : kG K o2 = (20, 4905)) (I : MI)   (h : w_X10_cycle_p196 a0 x1 x2 x3 x4 s0 s1 o2 I Q) : Jg K m 7 H0 w 196 [(0, .ref a0), (1, .int x1), (2, .int x2), (3, .int x3), (4, .int x4)] [.int s0, .int s1, .ref o2] (I, J, B) := by
  unfold w_X10_cycle_p196 at h
  obtain ⟨b34, h⟩ := h
  refine j_iast G hW ko2 b34 dX10_cycle_196 ?_
  refine j_mI (fun I35 eI35 => ?_)
  have h := h I35 eI35
  refine j_aload_n G 0 0 dX10_cycle_197 rfl rfl ?_
  have kk36 : kG K (a0 + 1) = (20, 4905) := wk_12_1 hW ka0
  refine j_get G hW 11 0 4 (.ref (a0 + 1)) ka0 (by decide) rfl (by decide) rfl lay_X10 fl_X10_7 rfl rfl dX10_cycle_198 ?_
  refine j_iload_n G 1 1 dX10_cycle_201 rfl rfl ?_
  refine j_sipush G (220 : Int32) dX10_cycle_202 (by decide) ?_
  refine j_iadd G dX10_cycle_205 ?_
  refine j_dup2 G rfl rfl dX10_cycle_206 ?_
  obtain ⟨b37, h⟩ := h
  refine j_iald G hW kk36 b37 dX10_cycle_207 ?_
  refine j_iload G 4 dX10_cycle_208 rfl ?_
  refine j_iadd G dX10_cycle_210 ?_
  obtain ⟨b38, h⟩ := h
  refine j_iast G hW kk36 b38 dX10_cycle_211 ?_
  refine j_mI (fun I39 eI39 => ?_)
  have h := h I39 eI39
  refine j_iload_n G 2 2 dX10_cycle_212 rfl rfl ?_
  refine j_aload_n G 0 0 dX10_cycle_213 rfl rfl ?_
  refine j_get G hW 11 0 4 (.ref (a0 + 1)) ka0 (by decide) rfl (by decide) rfl lay_X10 fl_X10_7 rfl rfl dX10_cycle_214 ?_
  refine j_iload_n G 1 1 dX10_cycle_217 rfl rfl ?_
  refine j_sipush G (221 : Int32) dX10_cycle_218 (by decide) ?_
  refine j_iadd G dX10_cycle_221 ?_
  obtain ⟨b40, h⟩ := h
  refine j_iald G hW kk36 b40 dX10_cycle_222 ?_
  refine j_icmp_ne G 284 dX10_cycle_223 (by decide) (fun c41 => ?_) (fun c41 => ?_)
  · have h := h.1 c41
    refine j_iconst G (0 : Int32) dX10_cycle_284 (by decide) ?_
    exact Jg.sub [0, 1] rfl (m_X10_cycle_p285 G hW a0 x1 (0 : Int32) ka0 I39 h)
  · have h := h.2 c41
    refine j_iload_n G 3 3 dX10_cycle_226 rfl rfl ?_
    refine j_aload_n G 0 0 dX10_cycle_227 rfl rfl ?_
    refine j_get G hW 11 0 4 (.ref (a0 + 1)) ka0 (by decide) rfl (by decide) rfl lay_X10 fl_X10_7 rfl rfl dX10_cycle_228 ?_
    refine j_iload_n G 1 1 dX10_cycle_231 rfl rfl ?_
    refine j_iconst G (0 : Int32) dX10_cycle_232 (by decide) ?_
    refine j_ci (rn_S G (n := 2) (As := [.int x1, .int (0 : Int32)]) (rest := [.ref (a0 + 1), .int x3]) (c_X10_sideAt K hW l x1 (0 : Int32) I39 J B _ h) ml_X10_98 st_X10_sideAt in_X10 co_X10_sideAt (by decide +kernel) rfl rfl (by decide) (by decide) rfl rfl (Nat.le_of_ble_eq_true rfl) dX10_cycle_233) (fun r61 _ h => ?_)
    refine j_iconst G (2 : Int32) dX10_cycle_236 (by decide) ?_
    refine j_iadd G dX10_cycle_237 ?_
    obtain ⟨b62, h⟩ := h
    refine j_iald G hW kk36 b62 dX10_cycle_238 ?_
    refine j_aload_n G 0 0 dX10_cycle_239 rfl rfl ?_
    refine j_get G hW 11 0 4 (.ref (a0 + 1)) ka0 (by decide) rfl (by decide) rfl lay_X10 fl_X10_7 rfl rfl dX10_cycle_240 ?_
    refine j_iload_n G 1 1 dX10_cycle_243 rfl rfl ?_
    refine j_iconst G (1 : Int32) dX10_cycle_244 (by decide) ?_
    refine j_ci (rn_S G (n := 2) (As := [.int x1, .int (1 : Int32)]) (rest := [.ref (a0 + 1), .int (I39 (a0 + 1) (ix (r61 + (2 : Int32)))), .int x3]) (c_X10_sideAt K hW l x1 (1 : Int32) I39 J B _ h) ml_X10_98 st_X10_sideAt in_X10 co_X10_sideAt (by decide +kernel) rfl rfl (by decide) (by decide) rfl rfl (Nat.le_of_ble_eq_true rfl) dX10_cycle_245) (fun r63 _ h => ?_)
    refine j_iconst G (2 : Int32) dX10_cycle_248 (by decide) ?_
    refine j_iadd G dX10_cycle_249 ?_
    obtain ⟨b64, h⟩ := h
    refine j_iald G hW kk36 b64 dX10_cycle_250 ?_
    refine j_iadd G dX10_cycle_251 ?_
    refine j_icmp_ne G 284 dX10_cycle_252 (by decide) (fun c65 => ?_) (fun c65 => ?_)
    · have h := h.1 c65
      refine j_iconst G (0 : Int32) dX10_cycle_284 (by decide) ?_
      exact Jg.sub [0, 1] rfl (m_X10_cycle_p285 G hW a0 x1 (0 : Int32) ka0 I39 h)
    · have h := h.2 c65
      refine j_aload_n G 0 0 dX10_cycle_255 rfl rfl ?_
      refine j_get G hW 11 0 4 (.ref (a0 + 1)) ka0 (by decide) rfl (by decide) rfl lay_X10 fl_X10_7 rfl rfl dX10_cycle_256 ?_
      refine j_iload_n G 1 1 dX10_cycle_259 rfl rfl ?_
      refine j_iconst G (0 : Int32) dX10_cycle_260 (by decide) ?_
      refine j_ci (rn_S G (n := 2) (As := [.int x1, .int (0 : Int32)]) (rest := [.ref (a0 + 1)]) (c_X10_sideAt K hW l x1 (0 : Int32) I39 J B _ h) ml_X10_98 st_X10_sideAt in_X10 co_X10_sideAt (by decide +kernel) rfl rfl (by decide) (by decide) rfl rfl (Nat.le_of_ble_eq_true rfl) dX10_cycle_261) (fun r66 _ h => ?_)
      refine j_iconst G (5 : Int32) dX10_cycle_264 (by decide) ?_
      refine j_iadd G dX10_cycle_265 ?_
      obtain ⟨b67, h⟩ := h
      refine j_iald G hW kk36 b67 dX10_cycle_266 ?_
      refine j_bipush G (7 : Int32) dX10_cycle_267 (by decide) ?_
      refine j_icmp_eq G 284 dX10_cycle_269 (by decide) (fun c68 => ?_) (fun c68 => ?_)
      · have h := h.1 c68
        refine j_iconst G (0 : Int32) dX10_cycle_284 (by decide) ?_
        exact Jg.sub [0, 1] rfl (m_X10_cycle_p285 G hW a0 x1 (0 : Int32) ka0 I39 h)
      · have h := h.2 c68
        refine j_aload_n G 0 0 dX10_cycle_272 rfl rfl ?_
        refine j_iload_n G 1 1 dX10_cycle_273 rfl rfl ?_
        refine j_ci (rn_V G hW (ci := 11) (n := 1) (As := [.int x1]) (rest := []) (c_X10_haveCome K hW l a0 x1 ka0 I39 J B _ h) ka0 (by decide) rfl ml_X10_168 im_X10_haveCome se_X10_haveCome in_X10 co_X10_haveCome rfl (by decide +kernel) rfl rfl (by decide) (by decide) rfl rfl (Nat.le_of_ble_eq_true rfl) dX10_cycle_274) (fun r69 _ h => ?_)
        refine j_if_eq G 284 dX10_cycle_277 (by decide) (fun c70 => ?_) (fun c70 => ?_)
        · have h := h.1 c70
          refine j_iconst G (0 : Int32) dX10_cycle_284 (by decide) ?_
          exact Jg.sub [0, 1] rfl (m_X10_cycle_p285 G hW a0 x1 (0 : Int32) ka0 I39 h)
        · have h := h.2 c70
          refine j_iconst G (1 : Int32) dX10_cycle_280 (by decide) ?_
          refine j_goto G 285 dX10_cycle_281 (by decide) ?_
          exact Jg.sub [0, 1] rfl (m_X10_cycle_p285 G hW a0 x1 (1 : Int32) ka0 I39 h)
def w_X10_cycle_p156 (a0 : Nat) (x1 : Int32) (x2 : Int32) (x3 : Int32) (x4 : Int32) (s0 : Int32) (s1 : Int32) (o2 : Nat) (I : MI)  (Q : MI → Prop) : Prop :=
(vp_in s1 4905 ∧
(∀ I29, I29 = ui I o2 (ix s1) s0 →
(vp_in (x1 + (219 : Int32)) 4905 ∧
(((I29 (a0 + 1) (ix (x1 + (219 : Int32)))) ≤ x4 → (vp_in (x1 + (219 : Int32)) 4905 ∧
w_X10_cycle_p196 a0 x1 x2 x3 x4 (I29 (a0 + 1) (ix (x1 + (219 : Int32)))) (x1 + (219 : Int32)) (a0 + 1) I29 Q)) ∧
(¬ (I29 (a0 + 1) (ix (x1 + (219 : Int32)))) ≤ x4 → w_X10_cycle_p196 a0 x1 x2 x3 x4 x4 (x1 + (219 : Int32)) (a0 + 1) I29 Q)))))
set_option maxHeartbeats 4000000 in
set_option maxRecDepth 100000 in
theorem m_X10_cycle_p156 {K : Kx} {l : Launch} {m : MethodId} {H0 : Heap} {Q : MI → Prop} {w : HW} {J : MJ} {B : MR} (G : Gd l rm_X10_cycle K m RX10 cX10_cycle 7 H0 none (va_Qv (S := MI) Q (fun u t => HP K (u, J, B) t.heap) (AA K)) w) (hW : WFK K) (a0 : Nat) (x1 : Int32) (x2 : Int32) (x3 : Int32) (x4 : Int32) (s0 : Int32) (s1 : Int32) (o2 : Nat) (ka0 : (kG K a0).1 = 12) (ko2 : kG K o2 = (20, 4905)) (I : MI)   (h : w_X10_cycle_p156 a0 x1 x2 x3 x4 s0 s1 o2 I Q) : Jg K m 7 H0 w 156 [(0, .ref a0), (1, .int x1), (2, .int x2), (3, .int x3), (4, .int x4)] [.int s0, .int s1, .ref o2] (I, J, B) := by
  unfold w_X10_cycle_p156 at h
  obtain ⟨b28, h⟩ := h
  refine j_iast G hW ko2 b28 dX10_cycle_156 ?_
  refine j_mI (fun I29 eI29 => ?_)
  have h := h I29 eI29
  refine j_aload_n G 0 0 dX10_cycle_157 rfl rfl ?_
  have kk30 : kG K (a0 + 1) = (20, 4905) := wk_12_1 hW ka0
  refine j_get G hW 11 0 4 (.ref (a0 + 1)) ka0 (by decide) rfl (by decide) rfl lay_X10 fl_X10_7 rfl rfl dX10_cycle_158 ?_
  refine j_iload_n G 1 1 dX10_cycle_161 rfl rfl ?_
  refine j_sipush G (219 : Int32) dX10_cycle_162 (by decide) ?_
  refine j_iadd G dX10_cycle_165 ?_
  refine j_iload G 4 dX10_cycle_166 rfl ?_
  refine j_aload_n G 0 0 dX10_cycle_168 rfl rfl ?_
  refine j_get G hW 11 0 4 (.ref (a0 + 1)) ka0 (by decide) rfl (by decide) rfl lay_X10 fl_X10_7 rfl rfl dX10_cycle_169 ?_
  refine j_iload_n G 1 1 dX10_cycle_172 rfl rfl ?_
  refine j_sipush G (219 : Int32) dX10_cycle_173 (by decide) ?_
  refine j_iadd G dX10_cycle_176 ?_
  obtain ⟨b31, h⟩ := h
  refine j_iald G hW kk30 b31 dX10_cycle_177 ?_
  refine j_icmp_ge G 186 dX10_cycle_178 (by decide) (fun c32 => ?_) (fun c32 => ?_)
  · have h := h.1 c32
    refine j_aload_n G 0 0 dX10_cycle_186 rfl rfl ?_
    refine j_get G hW 11 0 4 (.ref (a0 + 1)) ka0 (by decide) rfl (by decide) rfl lay_X10 fl_X10_7 rfl rfl dX10_cycle_187 ?_
    refine j_iload_n G 1 1 dX10_cycle_190 rfl rfl ?_
    refine j_sipush G (219 : Int32) dX10_cycle_191 (by decide) ?_
    refine j_iadd G dX10_cycle_194 ?_
    obtain ⟨b33, h⟩ := h
    refine j_iald G hW kk30 b33 dX10_cycle_195 ?_
    exact m_X10_cycle_p196 G hW a0 x1 x2 x3 x4 (I29 (a0 + 1) (ix (x1 + (219 : Int32)))) (x1 + (219 : Int32)) (a0 + 1) ka0 kk30 I29 h
  · have h := h.2 c32
    refine j_iload G 4 dX10_cycle_181 rfl ?_
    refine j_goto G 196 dX10_cycle_183 (by decide) ?_
    exact m_X10_cycle_p196 G hW a0 x1 x2 x3 x4 x4 (x1 + (219 : Int32)) (a0 + 1) ka0 kk30 I29 h
def w_X10_cycle_p110 (a0 : Nat) (x1 : Int32) (x2 : Int32) (x3 : Int32)  (I : MI)  (Q : MI → Prop) : Prop :=
(w_X10_slip a0 x1 I (fun r23 =>
(vp_in (x1 + (218 : Int32)) 4905 ∧
((r23 ≤ (I (a0 + 1) (ix (x1 + (218 : Int32)))) → (vp_in (x1 + (218 : Int32)) 4905 ∧
w_X10_cycle_p156 a0 x1 x2 x3 r23 (I (a0 + 1) (ix (x1 + (218 : Int32)))) (x1 + (218 : Int32)) (a0 + 1) I Q)) ∧
(¬ r23 ≤ (I (a0 + 1) (ix (x1 + (218 : Int32)))) → w_X10_cycle_p156 a0 x1 x2 x3 r23 r23 (x1 + (218 : Int32)) (a0 + 1) I Q)))))
set_option maxHeartbeats 4000000 in
set_option maxRecDepth 100000 in
theorem m_X10_cycle_p110 {K : Kx} {l : Launch} {m : MethodId} {H0 : Heap} {Q : MI → Prop} {w : HW} {J : MJ} {B : MR} (G : Gd l rm_X10_cycle K m RX10 cX10_cycle 7 H0 none (va_Qv (S := MI) Q (fun u t => HP K (u, J, B) t.heap) (AA K)) w) (hW : WFK K) (a0 : Nat) (x1 : Int32) (x2 : Int32) (x3 : Int32)  (ka0 : (kG K a0).1 = 12)  (I : MI)   (h : w_X10_cycle_p110 a0 x1 x2 x3 I Q) : Jg K m 7 H0 w 110 [(0, .ref a0), (1, .int x1), (2, .int x2), (3, .int x3)] [] (I, J, B) := by
  unfold w_X10_cycle_p110 at h
  refine j_aload_n G 0 0 dX10_cycle_110 rfl rfl ?_
  refine j_iload_n G 1 1 dX10_cycle_111 rfl rfl ?_
  refine j_ci (rn_V G hW (ci := 11) (n := 1) (As := [.int x1]) (rest := []) (c_X10_slip K hW l a0 x1 ka0 I J B _ h) ka0 (by decide) rfl ml_X10_165 im_X10_slip se_X10_slip in_X10 co_X10_slip rfl (by decide +kernel) rfl rfl (by decide) (by decide) rfl rfl (Nat.le_of_ble_eq_true rfl) dX10_cycle_112) (fun r23 _ h => ?_)
  refine j_istore G [(4, .int r23), (0, .ref a0), (1, .int x1), (2, .int x2), (3, .int x3)] dX10_cycle_115 (by decide) rfl ?_
  refine j_aload_n G 1 0 dX10_cycle_117 rfl rfl ?_
  have kk24 : kG K (a0 + 1) = (20, 4905) := wk_12_1 hW ka0
  refine j_get G hW 11 0 4 (.ref (a0 + 1)) ka0 (by decide) rfl (by decide) rfl lay_X10 fl_X10_7 rfl rfl dX10_cycle_118 ?_
  refine j_iload_n G 2 1 dX10_cycle_121 rfl rfl ?_
  refine j_sipush G (218 : Int32) dX10_cycle_122 (by decide) ?_
  refine j_iadd G dX10_cycle_125 ?_
  refine j_iload G 0 dX10_cycle_126 rfl ?_
  refine j_aload_n G 1 0 dX10_cycle_128 rfl rfl ?_
  refine j_get G hW 11 0 4 (.ref (a0 + 1)) ka0 (by decide) rfl (by decide) rfl lay_X10 fl_X10_7 rfl rfl dX10_cycle_129 ?_
  refine j_iload_n G 2 1 dX10_cycle_132 rfl rfl ?_
  refine j_sipush G (218 : Int32) dX10_cycle_133 (by decide) ?_
  refine j_iadd G dX10_cycle_136 ?_
  obtain ⟨b25, h⟩ := h
  refine j_iald G hW kk24 b25 dX10_cycle_137 ?_
  refine j_icmp_le G 146 dX10_cycle_138 (by decide) (fun c26 => ?_) (fun c26 => ?_)
  · have h := h.1 c26
    refine j_aload_n G 1 0 dX10_cycle_146 rfl rfl ?_
    refine j_get G hW 11 0 4 (.ref (a0 + 1)) ka0 (by decide) rfl (by decide) rfl lay_X10 fl_X10_7 rfl rfl dX10_cycle_147 ?_
    refine j_iload_n G 2 1 dX10_cycle_150 rfl rfl ?_
    refine j_sipush G (218 : Int32) dX10_cycle_151 (by decide) ?_
    refine j_iadd G dX10_cycle_154 ?_
    obtain ⟨b27, h⟩ := h
    refine j_iald G hW kk24 b27 dX10_cycle_155 ?_
    exact Jg.sub [1, 2, 3, 4, 0] rfl (m_X10_cycle_p156 G hW a0 x1 x2 x3 r23 (I (a0 + 1) (ix (x1 + (218 : Int32)))) (x1 + (218 : Int32)) (a0 + 1) ka0 kk24 I h)
  · have h := h.2 c26
    refine j_iload G 0 dX10_cycle_141 rfl ?_
    refine j_goto G 156 dX10_cycle_143 (by decide) ?_
    exact Jg.sub [1, 2, 3, 4, 0] rfl (m_X10_cycle_p156 G hW a0 x1 x2 x3 r23 r23 (x1 + (218 : Int32)) (a0 + 1) ka0 kk24 I h)
def w_X10_cycle (a0 : Nat) (x1 : Int32) (I : MI) (Q : MI → Prop) : Prop :=
(vp_in (x1 + (170 : Int32)) 4905 ∧
(vp_in (x1 + (170 : Int32)) 4905 ∧
(∀ I4, I4 = ui I (a0 + 1) (ix (x1 + (170 : Int32))) ((I (a0 + 1) (ix (x1 + (170 : Int32)))) + (1 : Int32)) →
(vp_in (x1 + (221 : Int32)) 4905 ∧
(∀ x2_6, x2_6 = I4 (a0 + 1) (ix (x1 + (221 : Int32))) →
(w_X10_sideAt x1 (0 : Int32) (fun r7 =>
(vp_in (r7 + (2 : Int32)) 4905 ∧
(w_X10_sideAt x1 (1 : Int32) (fun r9 =>
(vp_in (r9 + (2 : Int32)) 4905 ∧
(∀ x3_11, x3_11 = (I4 (a0 + 1) (ix (r7 + (2 : Int32)))) + (I4 (a0 + 1) (ix (r9 + (2 : Int32)))) →
(w_X10_sideAt x1 (0 : Int32) (fun r12 =>
(vp_in (r12 + (5 : Int32)) 4905 ∧
(∀ I14, I14 = ui I4 (a0 + 1) (ix (r12 + (5 : Int32))) (0 : Int32) →
(w_X10_sideAt x1 (1 : Int32) (fun r15 =>
(vp_in (r15 + (5 : Int32)) 4905 ∧
(∀ I17, I17 = ui I14 (a0 + 1) (ix (r15 + (5 : Int32))) (0 : Int32) →
(w_X10_writes a0 x1 I17 (fun I18 =>
(w_X10_isEnded a0 x1 (0 : Int32) I18 (fun r19 =>
((¬ r19 = 0 → (w_X10_isEnded a0 x1 (1 : Int32) I18 (fun r21 =>
((¬ r21 = 0 → w_X10_cycle_p110 a0 x1 x2_6 x3_11 I18 Q) ∧
(r21 = 0 → (w_X10_toils a0 x1 I18 (fun I71 =>
w_X10_cycle_p110 a0 x1 x2_6 x3_11 I71 Q))))))) ∧
(r19 = 0 → (w_X10_runs a0 x1 I18 (fun I72 =>
(w_X10_isEnded a0 x1 (1 : Int32) I72 (fun r73 =>
((¬ r73 = 0 → w_X10_cycle_p110 a0 x1 x2_6 x3_11 I72 Q) ∧
(r73 = 0 → (w_X10_toils a0 x1 I72 (fun I75 =>
w_X10_cycle_p110 a0 x1 x2_6 x3_11 I75 Q))))))))))))))))))))))))))))))))))
set_option maxHeartbeats 4000000 in
set_option maxRecDepth 100000 in
theorem c_X10_cycle (K : Kx) (hW : WFK K) (l : Launch) (a0 : Nat) (x1 : Int32) (k0 : (kG K a0).1 = 12) (I : MI) (J : MJ) (B : MR) (Q : MI → Prop) (h : w_X10_cycle a0 x1 I Q) : Con K l yX10_cycle (wsT yX10_cycle cX10_cycle 7 none) rm_X10_cycle [.ref a0, .int x1] (I, J, B) (va_Qv (S := MI) Q (fun u t => HP K (u, J, B) t.heap) (AA K)) := by
  refine Con.ofJ RX10 rfl (by decide) (Nat.le_of_ble_eq_true rfl) (fun m H0 w G => ?_)
  unfold w_X10_cycle at h
  show Jg K m 7 H0 w 0 [(0, .ref a0), (1, .int x1)] [] (I, J, B)
  refine j_aload_n G 0 0 dX10_cycle_0 rfl rfl ?_
  have kk1 : kG K (a0 + 1) = (20, 4905) := wk_12_1 hW k0
  refine j_get G hW 11 0 4 (.ref (a0 + 1)) k0 (by decide) rfl (by decide) rfl lay_X10 fl_X10_7 rfl rfl dX10_cycle_1 ?_
  refine j_iload_n G 1 1 dX10_cycle_4 rfl rfl ?_
  refine j_sipush G (170 : Int32) dX10_cycle_5 (by decide) ?_
  refine j_iadd G dX10_cycle_8 ?_
  refine j_dup2 G rfl rfl dX10_cycle_9 ?_
  obtain ⟨b2, h⟩ := h
  refine j_iald G hW kk1 b2 dX10_cycle_10 ?_
  refine j_iconst G (1 : Int32) dX10_cycle_11 (by decide) ?_
  refine j_iadd G dX10_cycle_12 ?_
  obtain ⟨b3, h⟩ := h
  refine j_iast G hW kk1 b3 dX10_cycle_13 ?_
  refine j_mI (fun I4 eI4 => ?_)
  have h := h I4 eI4
  refine j_aload_n G 0 0 dX10_cycle_14 rfl rfl ?_
  refine j_get G hW 11 0 4 (.ref (a0 + 1)) k0 (by decide) rfl (by decide) rfl lay_X10 fl_X10_7 rfl rfl dX10_cycle_15 ?_
  refine j_iload_n G 1 1 dX10_cycle_18 rfl rfl ?_
  refine j_sipush G (221 : Int32) dX10_cycle_19 (by decide) ?_
  refine j_iadd G dX10_cycle_22 ?_
  obtain ⟨b5, h⟩ := h
  refine j_iald G hW kk1 b5 dX10_cycle_23 ?_
  refine j_nm (fun x2_6 ex2_6 => ?_)
  have h := h x2_6 ex2_6
  refine j_istore_n G 2 [(2, .int x2_6), (0, .ref a0), (1, .int x1)] dX10_cycle_24 rfl (by decide) rfl ?_
  refine j_aload_n G 1 0 dX10_cycle_25 rfl rfl ?_
  refine j_get G hW 11 0 4 (.ref (a0 + 1)) k0 (by decide) rfl (by decide) rfl lay_X10 fl_X10_7 rfl rfl dX10_cycle_26 ?_
  refine j_iload_n G 2 1 dX10_cycle_29 rfl rfl ?_
  refine j_iconst G (0 : Int32) dX10_cycle_30 (by decide) ?_
  refine j_ci (rn_S G (n := 2) (As := [.int x1, .int (0 : Int32)]) (rest := [.ref (a0 + 1)]) (c_X10_sideAt K hW l x1 (0 : Int32) I4 J B _ h) ml_X10_98 st_X10_sideAt in_X10 co_X10_sideAt (by decide +kernel) rfl rfl (by decide) (by decide) rfl rfl (Nat.le_of_ble_eq_true rfl) dX10_cycle_31) (fun r7 _ h => ?_)
  refine j_iconst G (2 : Int32) dX10_cycle_34 (by decide) ?_
  refine j_iadd G dX10_cycle_35 ?_
  obtain ⟨b8, h⟩ := h
  refine j_iald G hW kk1 b8 dX10_cycle_36 ?_
  refine j_aload_n G 1 0 dX10_cycle_37 rfl rfl ?_
  refine j_get G hW 11 0 4 (.ref (a0 + 1)) k0 (by decide) rfl (by decide) rfl lay_X10 fl_X10_7 rfl rfl dX10_cycle_38 ?_
  refine j_iload_n G 2 1 dX10_cycle_41 rfl rfl ?_
  refine j_iconst G (1 : Int32) dX10_cycle_42 (by decide) ?_
  refine j_ci (rn_S G (n := 2) (As := [.int x1, .int (1 : Int32)]) (rest := [.ref (a0 + 1), .int (I4 (a0 + 1) (ix (r7 + (2 : Int32))))]) (c_X10_sideAt K hW l x1 (1 : Int32) I4 J B _ h) ml_X10_98 st_X10_sideAt in_X10 co_X10_sideAt (by decide +kernel) rfl rfl (by decide) (by decide) rfl rfl (Nat.le_of_ble_eq_true rfl) dX10_cycle_43) (fun r9 _ h => ?_)
  refine j_iconst G (2 : Int32) dX10_cycle_46 (by decide) ?_
  refine j_iadd G dX10_cycle_47 ?_
  obtain ⟨b10, h⟩ := h
  refine j_iald G hW kk1 b10 dX10_cycle_48 ?_
  refine j_iadd G dX10_cycle_49 ?_
  refine j_nm (fun x3_11 ex3_11 => ?_)
  have h := h x3_11 ex3_11
  refine j_istore_n G 3 [(3, .int x3_11), (2, .int x2_6), (0, .ref a0), (1, .int x1)] dX10_cycle_50 rfl (by decide) rfl ?_
  refine j_aload_n G 2 0 dX10_cycle_51 rfl rfl ?_
  refine j_get G hW 11 0 4 (.ref (a0 + 1)) k0 (by decide) rfl (by decide) rfl lay_X10 fl_X10_7 rfl rfl dX10_cycle_52 ?_
  refine j_iload_n G 3 1 dX10_cycle_55 rfl rfl ?_
  refine j_iconst G (0 : Int32) dX10_cycle_56 (by decide) ?_
  refine j_ci (rn_S G (n := 2) (As := [.int x1, .int (0 : Int32)]) (rest := [.ref (a0 + 1)]) (c_X10_sideAt K hW l x1 (0 : Int32) I4 J B _ h) ml_X10_98 st_X10_sideAt in_X10 co_X10_sideAt (by decide +kernel) rfl rfl (by decide) (by decide) rfl rfl (Nat.le_of_ble_eq_true rfl) dX10_cycle_57) (fun r12 _ h => ?_)
  refine j_iconst G (5 : Int32) dX10_cycle_60 (by decide) ?_
  refine j_iadd G dX10_cycle_61 ?_
  refine j_iconst G (0 : Int32) dX10_cycle_62 (by decide) ?_
  obtain ⟨b13, h⟩ := h
  refine j_iast G hW kk1 b13 dX10_cycle_63 ?_
  refine j_mI (fun I14 eI14 => ?_)
  have h := h I14 eI14
  refine j_aload_n G 2 0 dX10_cycle_64 rfl rfl ?_
  refine j_get G hW 11 0 4 (.ref (a0 + 1)) k0 (by decide) rfl (by decide) rfl lay_X10 fl_X10_7 rfl rfl dX10_cycle_65 ?_
  refine j_iload_n G 3 1 dX10_cycle_68 rfl rfl ?_
  refine j_iconst G (1 : Int32) dX10_cycle_69 (by decide) ?_
  refine j_ci (rn_S G (n := 2) (As := [.int x1, .int (1 : Int32)]) (rest := [.ref (a0 + 1)]) (c_X10_sideAt K hW l x1 (1 : Int32) I14 J B _ h) ml_X10_98 st_X10_sideAt in_X10 co_X10_sideAt (by decide +kernel) rfl rfl (by decide) (by decide) rfl rfl (Nat.le_of_ble_eq_true rfl) dX10_cycle_70) (fun r15 _ h => ?_)
  refine j_iconst G (5 : Int32) dX10_cycle_73 (by decide) ?_
  refine j_iadd G dX10_cycle_74 ?_
  refine j_iconst G (0 : Int32) dX10_cycle_75 (by decide) ?_
  obtain ⟨b16, h⟩ := h
  refine j_iast G hW kk1 b16 dX10_cycle_76 ?_
  refine j_mI (fun I17 eI17 => ?_)
  have h := h I17 eI17
  refine j_aload_n G 2 0 dX10_cycle_77 rfl rfl ?_
  refine j_iload_n G 3 1 dX10_cycle_78 rfl rfl ?_
  refine j_cv (rn_V G hW (ci := 11) (n := 1) (As := [.int x1]) (rest := []) (c_X10_writes K hW l a0 x1 k0 I17 J B _ h) k0 (by decide) rfl ml_X10_153 im_X10_writes se_X10_writes in_X10 co_X10_writes rfl (by decide +kernel) rfl rfl (by decide) (by decide) rfl rfl (Nat.le_of_ble_eq_true rfl) dX10_cycle_79) (fun I18 h => ?_)
  refine j_aload_n G 2 0 dX10_cycle_82 rfl rfl ?_
  refine j_iload_n G 3 1 dX10_cycle_83 rfl rfl ?_
  refine j_iconst G (0 : Int32) dX10_cycle_84 (by decide) ?_
  refine j_ci (rn_V G hW (ci := 11) (n := 2) (As := [.int x1, .int (0 : Int32)]) (rest := []) (c_X10_isEnded K hW l a0 x1 (0 : Int32) k0 I18 J B _ h) k0 (by decide) rfl ml_X10_156 im_X10_isEnded se_X10_isEnded in_X10 co_X10_isEnded rfl (by decide +kernel) rfl rfl (by decide) (by decide) rfl rfl (Nat.le_of_ble_eq_true rfl) dX10_cycle_85) (fun r19 _ h => ?_)
  refine j_if_ne G 96 dX10_cycle_88 (by decide) (fun c20 => ?_) (fun c20 => ?_)
  · have h := h.1 c20
    refine j_aload_n G 2 0 dX10_cycle_96 rfl rfl ?_
    refine j_iload_n G 3 1 dX10_cycle_97 rfl rfl ?_
    refine j_iconst G (1 : Int32) dX10_cycle_98 (by decide) ?_
    refine j_ci (rn_V G hW (ci := 11) (n := 2) (As := [.int x1, .int (1 : Int32)]) (rest := []) (c_X10_isEnded K hW l a0 x1 (1 : Int32) k0 I18 J B _ h) k0 (by decide) rfl ml_X10_156 im_X10_isEnded se_X10_isEnded in_X10 co_X10_isEnded rfl (by decide +kernel) rfl rfl (by decide) (by decide) rfl rfl (Nat.le_of_ble_eq_true rfl) dX10_cycle_99) (fun r21 _ h => ?_)
    refine j_if_ne G 110 dX10_cycle_102 (by decide) (fun c22 => ?_) (fun c22 => ?_)
    · have h := h.1 c22
      exact Jg.sub [2, 3, 1, 0] rfl (m_X10_cycle_p110 G hW a0 x1 x2_6 x3_11 k0 I18 h)
    · have h := h.2 c22
      refine j_aload_n G 2 0 dX10_cycle_105 rfl rfl ?_
      refine j_iload_n G 3 1 dX10_cycle_106 rfl rfl ?_
      refine j_cv (rn_V G hW (ci := 11) (n := 1) (As := [.int x1]) (rest := []) (c_X10_toils K hW l a0 x1 k0 I18 J B _ h) k0 (by decide) rfl ml_X10_162 im_X10_toils se_X10_toils in_X10 co_X10_toils rfl (by decide +kernel) rfl rfl (by decide) (by decide) rfl rfl (Nat.le_of_ble_eq_true rfl) dX10_cycle_107) (fun I71 h => ?_)
      exact Jg.sub [2, 3, 1, 0] rfl (m_X10_cycle_p110 G hW a0 x1 x2_6 x3_11 k0 I71 h)
  · have h := h.2 c20
    refine j_aload_n G 2 0 dX10_cycle_91 rfl rfl ?_
    refine j_iload_n G 3 1 dX10_cycle_92 rfl rfl ?_
    refine j_cv (rn_V G hW (ci := 11) (n := 1) (As := [.int x1]) (rest := []) (c_X10_runs K hW l a0 x1 k0 I18 J B _ h) k0 (by decide) rfl ml_X10_159 im_X10_runs se_X10_runs in_X10 co_X10_runs rfl (by decide +kernel) rfl rfl (by decide) (by decide) rfl rfl (Nat.le_of_ble_eq_true rfl) dX10_cycle_93) (fun I72 h => ?_)
    refine j_aload_n G 2 0 dX10_cycle_96 rfl rfl ?_
    refine j_iload_n G 3 1 dX10_cycle_97 rfl rfl ?_
    refine j_iconst G (1 : Int32) dX10_cycle_98 (by decide) ?_
    refine j_ci (rn_V G hW (ci := 11) (n := 2) (As := [.int x1, .int (1 : Int32)]) (rest := []) (c_X10_isEnded K hW l a0 x1 (1 : Int32) k0 I72 J B _ h) k0 (by decide) rfl ml_X10_156 im_X10_isEnded se_X10_isEnded in_X10 co_X10_isEnded rfl (by decide +kernel) rfl rfl (by decide) (by decide) rfl rfl (Nat.le_of_ble_eq_true rfl) dX10_cycle_99) (fun r73 _ h => ?_)
    refine j_if_ne G 110 dX10_cycle_102 (by decide) (fun c74 => ?_) (fun c74 => ?_)
    · have h := h.1 c74
      exact Jg.sub [2, 3, 1, 0] rfl (m_X10_cycle_p110 G hW a0 x1 x2_6 x3_11 k0 I72 h)
    · have h := h.2 c74
      refine j_aload_n G 2 0 dX10_cycle_105 rfl rfl ?_
      refine j_iload_n G 3 1 dX10_cycle_106 rfl rfl ?_
      refine j_cv (rn_V G hW (ci := 11) (n := 1) (As := [.int x1]) (rest := []) (c_X10_toils K hW l a0 x1 k0 I72 J B _ h) k0 (by decide) rfl ml_X10_162 im_X10_toils se_X10_toils in_X10 co_X10_toils rfl (by decide +kernel) rfl rfl (by decide) (by decide) rfl rfl (Nat.le_of_ble_eq_true rfl) dX10_cycle_107) (fun I75 h => ?_)
      exact Jg.sub [2, 3, 1, 0] rfl (m_X10_cycle_p110 G hW a0 x1 x2_6 x3_11 k0 I75 h)
abbrev rm_X10_goes : Room := { frames := 8, cells := 0, slots := 0, locals := 201 }
def w_X10_goes_l2 (a0 : Nat) (x1 : Int32) (x2 : Int32)   (Q : Int32 → MI → Prop) (rec : Int32 → MI → Prop) (x3 : Int32) (I : MI) : Prop :=
((x2 ≤ x3 → Q x3 I) ∧
(¬ x2 ≤ x3 → (vp_in (x1 + (171 : Int32)) 4905 ∧
((¬ (I (a0 + 1) (ix (x1 + (171 : Int32)))) = 0 → Q x3 I) ∧
((I (a0 + 1) (ix (x1 + (171 : Int32)))) = 0 → (w_X10_cycle a0 x1 I (fun I5 =>
rec (x3 + 1) I5)))))))
set_option maxHeartbeats 4000000 in
set_option maxRecDepth 100000 in
theorem m_X10_goes_l2 {K : Kx} {l : Launch} {m : MethodId} {H0 : Heap} {Q : Int32 → MI → Prop} {w : HW} {J : MJ} {B : MR} (G : Gd l rm_X10_goes K m RX10 cX10_goes 4 H0 (some .int) (va_Qi (S := MI) Q (fun u t => HP K (u, J, B) t.heap) (AA K)) w) (hW : WFK K) (a0 : Nat) (x1 : Int32) (x2 : Int32) (x3 : Int32) (ka0 : (kG K a0).1 = 12) (I : MI)   (h : Lp2 (w_X10_goes_l2 a0 x1 x2 Q) x3 I) : Jg K m 4 H0 w 2 [(0, .ref a0), (1, .int x1), (2, .int x2), (3, .int x3)] [] (I, J, B) := by
  obtain ⟨n, h⟩ := h
  refine lpN2_ind (P := (fun (x3 : Int32) (I : MI) => Jg K m 4 H0 w 2 [(0, .ref a0), (1, .int x1), (2, .int x2), (3, .int x3)] [] (I, J, B))) (fun rec hrec x3 I h => ?_) n x3 I h
  unfold w_X10_goes_l2 at h
  refine j_iload_n G 3 3 dX10_goes_2 rfl rfl ?_
  refine j_iload_n G 2 2 dX10_goes_3 rfl rfl ?_
  refine j_icmp_ge G 31 dX10_goes_4 (by decide) (fun c1 => ?_) (fun c1 => ?_)
  · have h := h.1 c1
    refine j_iload_n G 3 3 dX10_goes_31 rfl rfl ?_
    exact j_reti G I rfl dX10_goes_32 h rfl
  · have h := h.2 c1
    refine j_aload_n G 0 0 dX10_goes_7 rfl rfl ?_
    have kk2 : kG K (a0 + 1) = (20, 4905) := wk_12_1 hW ka0
    refine j_get G hW 11 0 4 (.ref (a0 + 1)) ka0 (by decide) rfl (by decide) rfl lay_X10 fl_X10_7 rfl rfl dX10_goes_8 ?_
    refine j_iload_n G 1 1 dX10_goes_11 rfl rfl ?_
    refine j_sipush G (171 : Int32) dX10_goes_12 (by decide) ?_
    refine j_iadd G dX10_goes_15 ?_
    obtain ⟨b3, h⟩ := h
    refine j_iald G hW kk2 b3 dX10_goes_16 ?_
    refine j_if_ne G 31 dX10_goes_17 (by decide) (fun c4 => ?_) (fun c4 => ?_)
    · have h := h.1 c4
      refine j_iload_n G 3 3 dX10_goes_31 rfl rfl ?_
      exact j_reti G I rfl dX10_goes_32 h rfl
    · have h := h.2 c4
      refine j_aload_n G 0 0 dX10_goes_20 rfl rfl ?_
      refine j_iload_n G 1 1 dX10_goes_21 rfl rfl ?_
      refine j_cv (rn_V G hW (ci := 11) (n := 1) (As := [.int x1]) (rest := []) (c_X10_cycle K hW l a0 x1 ka0 I J B _ h) ka0 (by decide) rfl ml_X10_171 im_X10_cycle se_X10_cycle in_X10 co_X10_cycle rfl (by decide +kernel) rfl rfl (by decide) (by decide) rfl rfl (Nat.le_of_ble_eq_true rfl) dX10_goes_22) (fun I5 h => ?_)
      refine j_iinc G 3 (x3 + 1) [(3, .int (x3 + 1)), (0, .ref a0), (1, .int x1), (2, .int x2)] dX10_goes_25 rfl rfl (by decide) rfl ?_
      refine j_goto G 2 dX10_goes_28 (by decide) ?_
      exact Jg.sub [1, 2, 3, 0] rfl (hrec (x3 + 1) I5 h)
def w_X10_goes (a0 : Nat) (x1 : Int32) (x2 : Int32) (I : MI) (Q : Int32 → MI → Prop) : Prop :=
Lp2 (w_X10_goes_l2 a0 x1 x2 Q) (0 : Int32) I
set_option maxHeartbeats 4000000 in
set_option maxRecDepth 100000 in
theorem c_X10_goes (K : Kx) (hW : WFK K) (l : Launch) (a0 : Nat) (x1 : Int32) (x2 : Int32) (k0 : (kG K a0).1 = 12) (I : MI) (J : MJ) (B : MR) (Q : Int32 → MI → Prop) (h : w_X10_goes a0 x1 x2 I Q) : Con K l yX10_goes (wsT yX10_goes cX10_goes 4 (some .int)) rm_X10_goes [.ref a0, .int x1, .int x2] (I, J, B) (va_Qi (S := MI) Q (fun u t => HP K (u, J, B) t.heap) (AA K)) := by
  refine Con.ofJ RX10 rfl (by decide) (Nat.le_of_ble_eq_true rfl) (fun m H0 w G => ?_)
  unfold w_X10_goes at h
  show Jg K m 4 H0 w 0 [(0, .ref a0), (1, .int x1), (2, .int x2)] [] (I, J, B)
  refine j_iconst G (0 : Int32) dX10_goes_0 (by decide) ?_
  refine j_istore_n G 3 [(3, .int (0 : Int32)), (0, .ref a0), (1, .int x1), (2, .int x2)] dX10_goes_1 rfl (by decide) rfl ?_
  refine Jg.sub [1, 2, 3, 0] rfl (m_X10_goes_l2 G hW a0 x1 x2 (0 : Int32) k0 I h)
abbrev rm_X10_counts : Room := { frames := 2, cells := 0, slots := 0, locals := 42 }
def w_X10_counts (a0 : Nat) (x1 : Int32) (x2 : Int32) (I : MI) (Q : Int32 →  Prop) : Prop :=
((x2 = (0 : Int32) → (vp_in (x1 + (170 : Int32)) 4905 ∧
Q (I (a0 + 1) (ix (x1 + (170 : Int32)))))) ∧
(x2 = (1 : Int32) → (vp_in (x1 + (171 : Int32)) 4905 ∧
Q (I (a0 + 1) (ix (x1 + (171 : Int32)))))) ∧
(x2 = (2 : Int32) → (vp_in (x1 + (48 : Int32)) 4905 ∧
Q (I (a0 + 1) (ix (x1 + (48 : Int32)))))) ∧
(x2 = (3 : Int32) → (vp_in (x1 + (49 : Int32)) 4905 ∧
Q (I (a0 + 1) (ix (x1 + (49 : Int32)))))) ∧
(x2 = (4 : Int32) → (vp_in (x1 + (0 : Int32)) 4905 ∧
Q (I (a0 + 1) (ix (x1 + (0 : Int32)))))) ∧
(x2 = (5 : Int32) → (w_X10_slip a0 x1 I (fun r11 =>
Q r11))) ∧
(x2 = (6 : Int32) → (vp_in (x1 + (218 : Int32)) 4905 ∧
Q (I (a0 + 1) (ix (x1 + (218 : Int32)))))) ∧
(x2 = (7 : Int32) → (vp_in (x1 + (219 : Int32)) 4905 ∧
Q (I (a0 + 1) (ix (x1 + (219 : Int32)))))) ∧
(x2 = (8 : Int32) → (vp_in (x1 + (220 : Int32)) 4905 ∧
Q (I (a0 + 1) (ix (x1 + (220 : Int32)))))) ∧
(x2 = (9 : Int32) → (w_X10_sideAt x1 (0 : Int32) (fun r19 =>
(vp_in ((r19 + (6 : Int32)) + (5 : Int32)) 4905 ∧
(w_X10_sideAt x1 (0 : Int32) (fun r21 =>
(vp_in ((r21 + (6 : Int32)) + (6 : Int32)) 4905 ∧
(w_X10_sideAt x1 (0 : Int32) (fun r23 =>
(vp_in ((r23 + (6 : Int32)) + (7 : Int32)) 4905 ∧
Q (((I (a0 + 1) (ix ((r19 + (6 : Int32)) + (5 : Int32)))) + (I (a0 + 1) (ix ((r21 + (6 : Int32)) + (6 : Int32))))) + (I (a0 + 1) (ix ((r23 + (6 : Int32)) + (7 : Int32))))))))))))))) ∧
(x2 = (10 : Int32) → Q (I a0 3)) ∧
(x2 = (11 : Int32) → (vp_in (x1 + (221 : Int32)) 4905 ∧
Q (I (a0 + 1) (ix (x1 + (221 : Int32)))))) ∧
(¬ x2 = (0 : Int32) → ¬ x2 = (1 : Int32) → ¬ x2 = (2 : Int32) → ¬ x2 = (3 : Int32) → ¬ x2 = (4 : Int32) → ¬ x2 = (5 : Int32) → ¬ x2 = (6 : Int32) → ¬ x2 = (7 : Int32) → ¬ x2 = (8 : Int32) → ¬ x2 = (9 : Int32) → ¬ x2 = (10 : Int32) → ¬ x2 = (11 : Int32) → Q (-1 : Int32)))
set_option maxHeartbeats 4000000 in
set_option maxRecDepth 100000 in
theorem c_X10_counts (K : Kx) (hW : WFK K) (l : Launch) (a0 : Nat) (x1 : Int32) (x2 : Int32) (k0 : (kG K a0).1 = 12) (I : MI) (J : MJ) (B : MR) (Q : Int32 →  Prop) (h : w_X10_counts a0 x1 x2 I Q) : Con K l yX10_counts (wsT yX10_counts cX10_counts 3 (some .int)) rm_X10_counts [.ref a0, .int x1, .int x2] (I, J, B) (va_Qi (S := Unit) (fun r _ => Q r) (fun u t => HP K (I, J, B) t.heap) (AA K)) := by
  refine Con.ofJ RX10 rfl (by decide) (Nat.le_of_ble_eq_true rfl) (fun m H0 w G => ?_)
  unfold w_X10_counts at h
  show Jg K m 3 H0 w 0 [(0, .ref a0), (1, .int x1), (2, .int x2)] [] (I, J, B)
  refine j_iload_n G 2 2 dX10_counts_0 rfl rfl ?_
  by_cases c27 : x2 = (0 : Int32)
  · have h := h.1 (c27)
    refine j_tableIn G 64 dX10_counts_1 (by rw [c27]; decide) (by rw [c27]; decide) (by rw [c27] <;> rfl) (by decide) ?_
    refine j_aload_n G 0 0 dX10_counts_64 rfl rfl ?_
    have kk1 : kG K (a0 + 1) = (20, 4905) := wk_12_1 hW k0
    refine j_get G hW 11 0 4 (.ref (a0 + 1)) k0 (by decide) rfl (by decide) rfl lay_X10 fl_X10_7 rfl rfl dX10_counts_65 ?_
    refine j_iload_n G 1 1 dX10_counts_68 rfl rfl ?_
    refine j_sipush G (170 : Int32) dX10_counts_69 (by decide) ?_
    refine j_iadd G dX10_counts_72 ?_
    obtain ⟨b2, h⟩ := h
    refine j_iald G hW kk1 b2 dX10_counts_73 ?_
    exact j_reti G () rfl dX10_counts_74 h rfl
  · skip
    by_cases c28 : x2 = (1 : Int32)
    · have h := h.2.1 (c28)
      refine j_tableIn G 75 dX10_counts_1 (by rw [c28]; decide) (by rw [c28]; decide) (by rw [c28] <;> rfl) (by decide) ?_
      refine j_aload_n G 0 0 dX10_counts_75 rfl rfl ?_
      have kk3 : kG K (a0 + 1) = (20, 4905) := wk_12_1 hW k0
      refine j_get G hW 11 0 4 (.ref (a0 + 1)) k0 (by decide) rfl (by decide) rfl lay_X10 fl_X10_7 rfl rfl dX10_counts_76 ?_
      refine j_iload_n G 1 1 dX10_counts_79 rfl rfl ?_
      refine j_sipush G (171 : Int32) dX10_counts_80 (by decide) ?_
      refine j_iadd G dX10_counts_83 ?_
      obtain ⟨b4, h⟩ := h
      refine j_iald G hW kk3 b4 dX10_counts_84 ?_
      exact j_reti G () rfl dX10_counts_85 h rfl
    · skip
      by_cases c29 : x2 = (2 : Int32)
      · have h := h.2.2.1 (c29)
        refine j_tableIn G 86 dX10_counts_1 (by rw [c29]; decide) (by rw [c29]; decide) (by rw [c29] <;> rfl) (by decide) ?_
        refine j_aload_n G 0 0 dX10_counts_86 rfl rfl ?_
        have kk5 : kG K (a0 + 1) = (20, 4905) := wk_12_1 hW k0
        refine j_get G hW 11 0 4 (.ref (a0 + 1)) k0 (by decide) rfl (by decide) rfl lay_X10 fl_X10_7 rfl rfl dX10_counts_87 ?_
        refine j_iload_n G 1 1 dX10_counts_90 rfl rfl ?_
        refine j_bipush G (48 : Int32) dX10_counts_91 (by decide) ?_
        refine j_iadd G dX10_counts_93 ?_
        obtain ⟨b6, h⟩ := h
        refine j_iald G hW kk5 b6 dX10_counts_94 ?_
        exact j_reti G () rfl dX10_counts_95 h rfl
      · skip
        by_cases c30 : x2 = (3 : Int32)
        · have h := h.2.2.2.1 (c30)
          refine j_tableIn G 96 dX10_counts_1 (by rw [c30]; decide) (by rw [c30]; decide) (by rw [c30] <;> rfl) (by decide) ?_
          refine j_aload_n G 0 0 dX10_counts_96 rfl rfl ?_
          have kk7 : kG K (a0 + 1) = (20, 4905) := wk_12_1 hW k0
          refine j_get G hW 11 0 4 (.ref (a0 + 1)) k0 (by decide) rfl (by decide) rfl lay_X10 fl_X10_7 rfl rfl dX10_counts_97 ?_
          refine j_iload_n G 1 1 dX10_counts_100 rfl rfl ?_
          refine j_bipush G (49 : Int32) dX10_counts_101 (by decide) ?_
          refine j_iadd G dX10_counts_103 ?_
          obtain ⟨b8, h⟩ := h
          refine j_iald G hW kk7 b8 dX10_counts_104 ?_
          exact j_reti G () rfl dX10_counts_105 h rfl
        · skip
          by_cases c31 : x2 = (4 : Int32)
          · have h := h.2.2.2.2.1 (c31)
            refine j_tableIn G 106 dX10_counts_1 (by rw [c31]; decide) (by rw [c31]; decide) (by rw [c31] <;> rfl) (by decide) ?_
            refine j_aload_n G 0 0 dX10_counts_106 rfl rfl ?_
            have kk9 : kG K (a0 + 1) = (20, 4905) := wk_12_1 hW k0
            refine j_get G hW 11 0 4 (.ref (a0 + 1)) k0 (by decide) rfl (by decide) rfl lay_X10 fl_X10_7 rfl rfl dX10_counts_107 ?_
            refine j_iload_n G 1 1 dX10_counts_110 rfl rfl ?_
            refine j_iconst G (0 : Int32) dX10_counts_111 (by decide) ?_
            refine j_iadd G dX10_counts_112 ?_
            obtain ⟨b10, h⟩ := h
            refine j_iald G hW kk9 b10 dX10_counts_113 ?_
            exact j_reti G () rfl dX10_counts_114 h rfl
          · skip
            by_cases c32 : x2 = (5 : Int32)
            · have h := h.2.2.2.2.2.1 (c32)
              refine j_tableIn G 115 dX10_counts_1 (by rw [c32]; decide) (by rw [c32]; decide) (by rw [c32] <;> rfl) (by decide) ?_
              refine j_aload_n G 0 0 dX10_counts_115 rfl rfl ?_
              refine j_iload_n G 1 1 dX10_counts_116 rfl rfl ?_
              refine j_ci (rn_V G hW (ci := 11) (n := 1) (As := [.int x1]) (rest := []) (c_X10_slip K hW l a0 x1 k0 I J B _ h) k0 (by decide) rfl ml_X10_165 im_X10_slip se_X10_slip in_X10 co_X10_slip rfl (by decide +kernel) rfl rfl (by decide) (by decide) rfl rfl (Nat.le_of_ble_eq_true rfl) dX10_counts_117) (fun r11 _ h => ?_)
              exact j_reti G () rfl dX10_counts_120 h rfl
            · skip
              by_cases c33 : x2 = (6 : Int32)
              · have h := h.2.2.2.2.2.2.1 (c33)
                refine j_tableIn G 121 dX10_counts_1 (by rw [c33]; decide) (by rw [c33]; decide) (by rw [c33] <;> rfl) (by decide) ?_
                refine j_aload_n G 0 0 dX10_counts_121 rfl rfl ?_
                have kk12 : kG K (a0 + 1) = (20, 4905) := wk_12_1 hW k0
                refine j_get G hW 11 0 4 (.ref (a0 + 1)) k0 (by decide) rfl (by decide) rfl lay_X10 fl_X10_7 rfl rfl dX10_counts_122 ?_
                refine j_iload_n G 1 1 dX10_counts_125 rfl rfl ?_
                refine j_sipush G (218 : Int32) dX10_counts_126 (by decide) ?_
                refine j_iadd G dX10_counts_129 ?_
                obtain ⟨b13, h⟩ := h
                refine j_iald G hW kk12 b13 dX10_counts_130 ?_
                exact j_reti G () rfl dX10_counts_131 h rfl
              · skip
                by_cases c34 : x2 = (7 : Int32)
                · have h := h.2.2.2.2.2.2.2.1 (c34)
                  refine j_tableIn G 132 dX10_counts_1 (by rw [c34]; decide) (by rw [c34]; decide) (by rw [c34] <;> rfl) (by decide) ?_
                  refine j_aload_n G 0 0 dX10_counts_132 rfl rfl ?_
                  have kk14 : kG K (a0 + 1) = (20, 4905) := wk_12_1 hW k0
                  refine j_get G hW 11 0 4 (.ref (a0 + 1)) k0 (by decide) rfl (by decide) rfl lay_X10 fl_X10_7 rfl rfl dX10_counts_133 ?_
                  refine j_iload_n G 1 1 dX10_counts_136 rfl rfl ?_
                  refine j_sipush G (219 : Int32) dX10_counts_137 (by decide) ?_
                  refine j_iadd G dX10_counts_140 ?_
                  obtain ⟨b15, h⟩ := h
                  refine j_iald G hW kk14 b15 dX10_counts_141 ?_
                  exact j_reti G () rfl dX10_counts_142 h rfl
                · skip
                  by_cases c35 : x2 = (8 : Int32)
                  · have h := h.2.2.2.2.2.2.2.2.1 (c35)
                    refine j_tableIn G 143 dX10_counts_1 (by rw [c35]; decide) (by rw [c35]; decide) (by rw [c35] <;> rfl) (by decide) ?_
                    refine j_aload_n G 0 0 dX10_counts_143 rfl rfl ?_
                    have kk16 : kG K (a0 + 1) = (20, 4905) := wk_12_1 hW k0
                    refine j_get G hW 11 0 4 (.ref (a0 + 1)) k0 (by decide) rfl (by decide) rfl lay_X10 fl_X10_7 rfl rfl dX10_counts_144 ?_
                    refine j_iload_n G 1 1 dX10_counts_147 rfl rfl ?_
                    refine j_sipush G (220 : Int32) dX10_counts_148 (by decide) ?_
                    refine j_iadd G dX10_counts_151 ?_
                    obtain ⟨b17, h⟩ := h
                    refine j_iald G hW kk16 b17 dX10_counts_152 ?_
                    exact j_reti G () rfl dX10_counts_153 h rfl
                  · skip
                    by_cases c36 : x2 = (9 : Int32)
                    · have h := h.2.2.2.2.2.2.2.2.2.1 (c36)
                      refine j_tableIn G 154 dX10_counts_1 (by rw [c36]; decide) (by rw [c36]; decide) (by rw [c36] <;> rfl) (by decide) ?_
                      refine j_aload_n G 0 0 dX10_counts_154 rfl rfl ?_
                      have kk18 : kG K (a0 + 1) = (20, 4905) := wk_12_1 hW k0
                      refine j_get G hW 11 0 4 (.ref (a0 + 1)) k0 (by decide) rfl (by decide) rfl lay_X10 fl_X10_7 rfl rfl dX10_counts_155 ?_
                      refine j_iload_n G 1 1 dX10_counts_158 rfl rfl ?_
                      refine j_iconst G (0 : Int32) dX10_counts_159 (by decide) ?_
                      refine j_ci (rn_S G (n := 2) (As := [.int x1, .int (0 : Int32)]) (rest := [.ref (a0 + 1)]) (c_X10_sideAt K hW l x1 (0 : Int32) I J B _ h) ml_X10_98 st_X10_sideAt in_X10 co_X10_sideAt (by decide +kernel) rfl rfl (by decide) (by decide) rfl rfl (Nat.le_of_ble_eq_true rfl) dX10_counts_160) (fun r19 _ h => ?_)
                      refine j_bipush G (6 : Int32) dX10_counts_163 (by decide) ?_
                      refine j_iadd G dX10_counts_165 ?_
                      refine j_iconst G (5 : Int32) dX10_counts_166 (by decide) ?_
                      refine j_iadd G dX10_counts_167 ?_
                      obtain ⟨b20, h⟩ := h
                      refine j_iald G hW kk18 b20 dX10_counts_168 ?_
                      refine j_aload_n G 0 0 dX10_counts_169 rfl rfl ?_
                      refine j_get G hW 11 0 4 (.ref (a0 + 1)) k0 (by decide) rfl (by decide) rfl lay_X10 fl_X10_7 rfl rfl dX10_counts_170 ?_
                      refine j_iload_n G 1 1 dX10_counts_173 rfl rfl ?_
                      refine j_iconst G (0 : Int32) dX10_counts_174 (by decide) ?_
                      refine j_ci (rn_S G (n := 2) (As := [.int x1, .int (0 : Int32)]) (rest := [.ref (a0 + 1), .int (I (a0 + 1) (ix ((r19 + (6 : Int32)) + (5 : Int32))))]) (c_X10_sideAt K hW l x1 (0 : Int32) I J B _ h) ml_X10_98 st_X10_sideAt in_X10 co_X10_sideAt (by decide +kernel) rfl rfl (by decide) (by decide) rfl rfl (Nat.le_of_ble_eq_true rfl) dX10_counts_175) (fun r21 _ h => ?_)
                      refine j_bipush G (6 : Int32) dX10_counts_178 (by decide) ?_
                      refine j_iadd G dX10_counts_180 ?_
                      refine j_bipush G (6 : Int32) dX10_counts_181 (by decide) ?_
                      refine j_iadd G dX10_counts_183 ?_
                      obtain ⟨b22, h⟩ := h
                      refine j_iald G hW kk18 b22 dX10_counts_184 ?_
                      refine j_iadd G dX10_counts_185 ?_
                      refine j_aload_n G 0 0 dX10_counts_186 rfl rfl ?_
                      refine j_get G hW 11 0 4 (.ref (a0 + 1)) k0 (by decide) rfl (by decide) rfl lay_X10 fl_X10_7 rfl rfl dX10_counts_187 ?_
                      refine j_iload_n G 1 1 dX10_counts_190 rfl rfl ?_
                      refine j_iconst G (0 : Int32) dX10_counts_191 (by decide) ?_
                      refine j_ci (rn_S G (n := 2) (As := [.int x1, .int (0 : Int32)]) (rest := [.ref (a0 + 1), .int ((I (a0 + 1) (ix ((r19 + (6 : Int32)) + (5 : Int32)))) + (I (a0 + 1) (ix ((r21 + (6 : Int32)) + (6 : Int32)))))]) (c_X10_sideAt K hW l x1 (0 : Int32) I J B _ h) ml_X10_98 st_X10_sideAt in_X10 co_X10_sideAt (by decide +kernel) rfl rfl (by decide) (by decide) rfl rfl (Nat.le_of_ble_eq_true rfl) dX10_counts_192) (fun r23 _ h => ?_)
                      refine j_bipush G (6 : Int32) dX10_counts_195 (by decide) ?_
                      refine j_iadd G dX10_counts_197 ?_
                      refine j_bipush G (7 : Int32) dX10_counts_198 (by decide) ?_
                      refine j_iadd G dX10_counts_200 ?_
                      obtain ⟨b24, h⟩ := h
                      refine j_iald G hW kk18 b24 dX10_counts_201 ?_
                      refine j_iadd G dX10_counts_202 ?_
                      exact j_reti G () rfl dX10_counts_203 h rfl
                    · skip
                      by_cases c37 : x2 = (10 : Int32)
                      · have h := h.2.2.2.2.2.2.2.2.2.2.1 (c37)
                        refine j_tableIn G 204 dX10_counts_1 (by rw [c37]; decide) (by rw [c37]; decide) (by rw [c37] <;> rfl) (by decide) ?_
                        refine j_aload_n G 0 0 dX10_counts_204 rfl rfl ?_
                        refine j_get G hW 11 3 0 (.int (I a0 3)) k0 (by decide) rfl (by decide) rfl lay_X10 fl_X10_174 rfl rfl dX10_counts_205 ?_
                        exact j_reti G () rfl dX10_counts_208 h rfl
                      · skip
                        by_cases c38 : x2 = (11 : Int32)
                        · have h := h.2.2.2.2.2.2.2.2.2.2.2.1 (c38)
                          refine j_tableIn G 209 dX10_counts_1 (by rw [c38]; decide) (by rw [c38]; decide) (by rw [c38] <;> rfl) (by decide) ?_
                          refine j_aload_n G 0 0 dX10_counts_209 rfl rfl ?_
                          have kk25 : kG K (a0 + 1) = (20, 4905) := wk_12_1 hW k0
                          refine j_get G hW 11 0 4 (.ref (a0 + 1)) k0 (by decide) rfl (by decide) rfl lay_X10 fl_X10_7 rfl rfl dX10_counts_210 ?_
                          refine j_iload_n G 1 1 dX10_counts_213 rfl rfl ?_
                          refine j_sipush G (221 : Int32) dX10_counts_214 (by decide) ?_
                          refine j_iadd G dX10_counts_217 ?_
                          obtain ⟨b26, h⟩ := h
                          refine j_iald G hW kk25 b26 dX10_counts_218 ?_
                          exact j_reti G () rfl dX10_counts_219 h rfl
                        · skip
                          have h := h.2.2.2.2.2.2.2.2.2.2.2.2 c27 c28 c29 c30 c31 c32 c33 c34 c35 c36 c37 c38
                          have nc27 := sw_ne (n := 0) rfl c27
                          have nc28 := sw_ne (n := 1) rfl c28
                          have nc29 := sw_ne (n := 2) rfl c29
                          have nc30 := sw_ne (n := 3) rfl c30
                          have nc31 := sw_ne (n := 4) rfl c31
                          have nc32 := sw_ne (n := 5) rfl c32
                          have nc33 := sw_ne (n := 6) rfl c33
                          have nc34 := sw_ne (n := 7) rfl c34
                          have nc35 := sw_ne (n := 8) rfl c35
                          have nc36 := sw_ne (n := 9) rfl c36
                          have nc37 := sw_ne (n := 10) rfl c37
                          have nc38 := sw_ne (n := 11) rfl c38
                          refine j_tableOut G 220 dX10_counts_1 (by omega) (by decide) ?_
                          refine j_iconst G (-1 : Int32) dX10_counts_220 (by decide) ?_
                          exact j_reti G () rfl dX10_counts_221 h rfl
abbrev rm_X10_tries : Room := { frames := 4, cells := 0, slots := 0, locals := 92 }
def w_X10_tries (a0 : Nat) (I : MI) (Q : MI → Prop) : Prop :=
(w_X10_copies a0 (0 : Int32) (516 : Int32) I (fun I1 =>
(w_X10_starts a0 (516 : Int32) I1 (fun I2 =>
Q I2))))
set_option maxHeartbeats 4000000 in
set_option maxRecDepth 100000 in
theorem c_X10_tries (K : Kx) (hW : WFK K) (l : Launch) (a0 : Nat) (k0 : (kG K a0).1 = 12) (I : MI) (J : MJ) (B : MR) (Q : MI → Prop) (h : w_X10_tries a0 I Q) : Con K l yX10_tries (wsT yX10_tries cX10_tries 1 none) rm_X10_tries [.ref a0] (I, J, B) (va_Qv (S := MI) Q (fun u t => HP K (u, J, B) t.heap) (AA K)) := by
  refine Con.ofJ RX10 rfl (by decide) (Nat.le_of_ble_eq_true rfl) (fun m H0 w G => ?_)
  unfold w_X10_tries at h
  show Jg K m 1 H0 w 0 [(0, .ref a0)] [] (I, J, B)
  refine j_aload_n G 0 0 dX10_tries_0 rfl rfl ?_
  refine j_iconst G (0 : Int32) dX10_tries_1 (by decide) ?_
  refine j_sipush G (516 : Int32) dX10_tries_2 (by decide) ?_
  refine j_cv (rn_V G hW (ci := 11) (n := 2) (As := [.int (0 : Int32), .int (516 : Int32)]) (rest := []) (c_X10_copies K hW l a0 (0 : Int32) (516 : Int32) k0 I J B _ h) k0 (by decide) rfl ml_X10_177 im_X10_copies se_X10_copies in_X10 co_X10_copies rfl (by decide +kernel) rfl rfl (by decide) (by decide) rfl rfl (Nat.le_of_ble_eq_true rfl) dX10_tries_5) (fun I1 h => ?_)
  refine j_aload_n G 0 0 dX10_tries_8 rfl rfl ?_
  refine j_sipush G (516 : Int32) dX10_tries_9 (by decide) ?_
  refine j_cv (rn_V G hW (ci := 11) (n := 1) (As := [.int (516 : Int32)]) (rest := []) (c_X10_starts K hW l a0 (516 : Int32) k0 I1 J B _ h) k0 (by decide) rfl ml_X10_47 im_X10_starts se_X10_starts in_X10 co_X10_starts rfl (by decide +kernel) rfl rfl (by decide) (by decide) rfl rfl (Nat.le_of_ble_eq_true rfl) dX10_tries_12) (fun I2 h => ?_)
  exact j_retv G I2 dX10_tries_15 h rfl
abbrev rm_X10_ending : Room := { frames := 9, cells := 0, slots := 0, locals := 224 }
def w_X10_ending (a0 : Nat) (I : MI) (Q : Int32 → MI → Prop) : Prop :=
(w_X10_goes a0 (516 : Int32) (999 : Int32) I (fun r1 I2 =>
((¬ (I2 (a0 + 1) (ix (687 : Int32))) = (1 : Int32) → Q (-1 : Int32) I2) ∧
((I2 (a0 + 1) (ix (687 : Int32))) = (1 : Int32) → Q (I2 (a0 + 1) (ix (686 : Int32))) I2))))
set_option maxHeartbeats 4000000 in
set_option maxRecDepth 100000 in
theorem c_X10_ending (K : Kx) (hW : WFK K) (l : Launch) (a0 : Nat) (k0 : (kG K a0).1 = 12) (I : MI) (J : MJ) (B : MR) (Q : Int32 → MI → Prop) (h : w_X10_ending a0 I Q) : Con K l yX10_ending (wsT yX10_ending cX10_ending 2 (some .int)) rm_X10_ending [.ref a0] (I, J, B) (va_Qi (S := MI) Q (fun u t => HP K (u, J, B) t.heap) (AA K)) := by
  refine Con.ofJ RX10 rfl (by decide) (Nat.le_of_ble_eq_true rfl) (fun m H0 w G => ?_)
  unfold w_X10_ending at h
  show Jg K m 2 H0 w 0 [(0, .ref a0)] [] (I, J, B)
  refine j_aload_n G 0 0 dX10_ending_0 rfl rfl ?_
  refine j_sipush G (516 : Int32) dX10_ending_1 (by decide) ?_
  refine j_sipush G (999 : Int32) dX10_ending_4 (by decide) ?_
  refine j_ci (rn_V G hW (ci := 11) (n := 2) (As := [.int (516 : Int32), .int (999 : Int32)]) (rest := []) (c_X10_goes K hW l a0 (516 : Int32) (999 : Int32) k0 I J B _ h) k0 (by decide) rfl ml_X10_180 im_X10_goes se_X10_goes in_X10 co_X10_goes rfl (by decide +kernel) rfl rfl (by decide) (by decide) rfl rfl (Nat.le_of_ble_eq_true rfl) dX10_ending_7) (fun r1 I2 h => ?_)
  refine j_istore_n G 1 [(1, .int r1), (0, .ref a0)] dX10_ending_10 rfl (by decide) rfl ?_
  refine j_aload_n G 1 0 dX10_ending_11 rfl rfl ?_
  have kk3 : kG K (a0 + 1) = (20, 4905) := wk_12_1 hW k0
  refine j_get G hW 11 0 4 (.ref (a0 + 1)) k0 (by decide) rfl (by decide) rfl lay_X10 fl_X10_7 rfl rfl dX10_ending_12 ?_
  refine j_sipush G (687 : Int32) dX10_ending_15 (by decide) ?_
  refine j_iald G hW kk3 (vpc rfl) dX10_ending_18 ?_
  refine j_iconst G (1 : Int32) dX10_ending_19 (by decide) ?_
  refine j_icmp_ne G 34 dX10_ending_20 (by decide) (fun c4 => ?_) (fun c4 => ?_)
  · have h := h.1 c4
    refine j_iconst G (-1 : Int32) dX10_ending_34 (by decide) ?_
    exact j_reti G I2 rfl dX10_ending_35 h rfl
  · have h := h.2 c4
    refine j_aload_n G 1 0 dX10_ending_23 rfl rfl ?_
    refine j_get G hW 11 0 4 (.ref (a0 + 1)) k0 (by decide) rfl (by decide) rfl lay_X10 fl_X10_7 rfl rfl dX10_ending_24 ?_
    refine j_sipush G (686 : Int32) dX10_ending_27 (by decide) ?_
    refine j_iald G hW kk3 (vpc rfl) dX10_ending_30 ?_
    refine j_goto G 35 dX10_ending_31 (by decide) ?_
    exact j_reti G I2 rfl dX10_ending_35 h rfl
abbrev rm_X10_time : Room := { frames := 10, cells := 0, slots := 0, locals := 245 }
def w_X10_time (a0 : Nat) (I : MI) (Q : Int32 → MI → Prop) : Prop :=
(w_X10_tries a0 I (fun I1 =>
(w_X10_ending a0 I1 (fun r2 I3 =>
Q r2 I3))))
set_option maxHeartbeats 4000000 in
set_option maxRecDepth 100000 in
theorem c_X10_time (K : Kx) (hW : WFK K) (l : Launch) (a0 : Nat) (k0 : (kG K a0).1 = 12) (I : MI) (J : MJ) (B : MR) (Q : Int32 → MI → Prop) (h : w_X10_time a0 I Q) : Con K l yX10_time (wsT yX10_time cX10_time 1 (some .int)) rm_X10_time [.ref a0] (I, J, B) (va_Qi (S := MI) Q (fun u t => HP K (u, J, B) t.heap) (AA K)) := by
  refine Con.ofJ RX10 rfl (by decide) (Nat.le_of_ble_eq_true rfl) (fun m H0 w G => ?_)
  unfold w_X10_time at h
  show Jg K m 1 H0 w 0 [(0, .ref a0)] [] (I, J, B)
  refine j_aload_n G 0 0 dX10_time_0 rfl rfl ?_
  refine j_cv (rn_V G hW (ci := 11) (n := 0) (As := []) (rest := []) (c_X10_tries K hW l a0 k0 I J B _ h) k0 (by decide) rfl ml_X10_183 im_X10_tries se_X10_tries in_X10 co_X10_tries rfl (by decide +kernel) rfl rfl (by decide) (by decide) rfl rfl (Nat.le_of_ble_eq_true rfl) dX10_time_1) (fun I1 h => ?_)
  refine j_aload_n G 0 0 dX10_time_4 rfl rfl ?_
  refine j_ci (rn_V G hW (ci := 11) (n := 0) (As := []) (rest := []) (c_X10_ending K hW l a0 k0 I1 J B _ h) k0 (by decide) rfl ml_X10_186 im_X10_ending se_X10_ending in_X10 co_X10_ending rfl (by decide +kernel) rfl rfl (by decide) (by decide) rfl rfl (Nat.le_of_ble_eq_true rfl) dX10_time_5) (fun r2 I3 h => ?_)
  exact j_reti G I3 rfl dX10_time_8 h rfl
abbrev rm_X10_late : Room := { frames := 10, cells := 0, slots := 0, locals := 245 }
def w_X10_late (a0 : Nat) (x1 : Int32) (I : MI) (Q : Int32 → MI → Prop) : Prop :=
(w_X10_isIn x1 (1 : Int32) (9 : Int32) (fun r1 =>
((¬ r1 = 0 → (w_X10_tries a0 I (fun I3 =>
(∀ I5, I5 = ui I3 (a0 + 1) (ix (516 : Int32)) x1 →
(w_X10_ending a0 I5 (fun r6 I7 =>
Q r6 I7)))))) ∧
(r1 = 0 → Q (-1 : Int32) I))))
set_option maxHeartbeats 4000000 in
set_option maxRecDepth 100000 in
theorem c_X10_late (K : Kx) (hW : WFK K) (l : Launch) (a0 : Nat) (x1 : Int32) (k0 : (kG K a0).1 = 12) (I : MI) (J : MJ) (B : MR) (Q : Int32 → MI → Prop) (h : w_X10_late a0 x1 I Q) : Con K l yX10_late (wsT yX10_late cX10_late 2 (some .int)) rm_X10_late [.ref a0, .int x1] (I, J, B) (va_Qi (S := MI) Q (fun u t => HP K (u, J, B) t.heap) (AA K)) := by
  refine Con.ofJ RX10 rfl (by decide) (Nat.le_of_ble_eq_true rfl) (fun m H0 w G => ?_)
  unfold w_X10_late at h
  show Jg K m 2 H0 w 0 [(0, .ref a0), (1, .int x1)] [] (I, J, B)
  refine j_iload_n G 1 1 dX10_late_0 rfl rfl ?_
  refine j_iconst G (1 : Int32) dX10_late_1 (by decide) ?_
  refine j_bipush G (9 : Int32) dX10_late_2 (by decide) ?_
  refine j_ci (rn_S G (n := 3) (As := [.int x1, .int (1 : Int32), .int (9 : Int32)]) (rest := []) (c_X10_isIn K hW l x1 (1 : Int32) (9 : Int32) I J B _ h) ml_X10_190 st_X10_isIn in_X10 co_X10_isIn (by decide +kernel) rfl rfl (by decide) (by decide) rfl rfl (Nat.le_of_ble_eq_true rfl) dX10_late_4) (fun r1 _ h => ?_)
  refine j_if_ne G 12 dX10_late_7 (by decide) (fun c2 => ?_) (fun c2 => ?_)
  · have h := h.1 c2
    refine j_aload_n G 0 0 dX10_late_12 rfl rfl ?_
    refine j_cv (rn_V G hW (ci := 11) (n := 0) (As := []) (rest := []) (c_X10_tries K hW l a0 k0 I J B _ h) k0 (by decide) rfl ml_X10_183 im_X10_tries se_X10_tries in_X10 co_X10_tries rfl (by decide +kernel) rfl rfl (by decide) (by decide) rfl rfl (Nat.le_of_ble_eq_true rfl) dX10_late_13) (fun I3 h => ?_)
    refine j_aload_n G 0 0 dX10_late_16 rfl rfl ?_
    have kk4 : kG K (a0 + 1) = (20, 4905) := wk_12_1 hW k0
    refine j_get G hW 11 0 4 (.ref (a0 + 1)) k0 (by decide) rfl (by decide) rfl lay_X10 fl_X10_7 rfl rfl dX10_late_17 ?_
    refine j_sipush G (516 : Int32) dX10_late_20 (by decide) ?_
    refine j_iload_n G 1 1 dX10_late_23 rfl rfl ?_
    refine j_iast G hW kk4 (vpc rfl) dX10_late_24 ?_
    refine j_mI (fun I5 eI5 => ?_)
    have h := h I5 eI5
    refine j_aload_n G 0 0 dX10_late_25 rfl rfl ?_
    refine j_ci (rn_V G hW (ci := 11) (n := 0) (As := []) (rest := []) (c_X10_ending K hW l a0 k0 I5 J B _ h) k0 (by decide) rfl ml_X10_186 im_X10_ending se_X10_ending in_X10 co_X10_ending rfl (by decide +kernel) rfl rfl (by decide) (by decide) rfl rfl (Nat.le_of_ble_eq_true rfl) dX10_late_26) (fun r6 I7 h => ?_)
    exact j_reti G I7 rfl dX10_late_29 h rfl
  · have h := h.2 c2
    refine j_iconst G (-1 : Int32) dX10_late_10 (by decide) ?_
    exact j_reti G I rfl dX10_late_11 h rfl
abbrev rm_X10_keeping : Room := { frames := 10, cells := 0, slots := 0, locals := 245 }
def w_X10_keeping (a0 : Nat) (x1 : Int32) (I : MI) (Q : Int32 → MI → Prop) : Prop :=
(w_X10_isIn x1 (0 : Int32) (7 : Int32) (fun r1 =>
((¬ r1 = 0 → (w_X10_copies a0 (0 : Int32) (516 : Int32) I (fun I3 =>
(w_X10_isAim a0 (0 : Int32) x1 I3 (fun r5 =>
((r5 = 0 → (∀ I7, I7 = ui I3 (a0 + 1) (ix (563 : Int32)) ((I3 (a0 + 1) (ix (563 : Int32))) ||| ((1 : Int32) <<< (x1 &&& 31))) →
(w_X10_starts a0 (516 : Int32) I7 (fun I8 =>
(w_X10_ending a0 I8 (fun r9 I10 =>
Q r9 I10)))))) ∧
(¬ r5 = 0 → (∀ I11, I11 = ui I3 (a0 + 1) (ix (563 : Int32)) ((I3 (a0 + 1) (ix (563 : Int32))) ||| (0 : Int32)) →
(w_X10_starts a0 (516 : Int32) I11 (fun I12 =>
(w_X10_ending a0 I12 (fun r13 I14 =>
Q r13 I14)))))))))))) ∧
(r1 = 0 → Q (-1 : Int32) I))))
set_option maxHeartbeats 4000000 in
set_option maxRecDepth 100000 in
theorem c_X10_keeping (K : Kx) (hW : WFK K) (l : Launch) (a0 : Nat) (x1 : Int32) (k0 : (kG K a0).1 = 12) (I : MI) (J : MJ) (B : MR) (Q : Int32 → MI → Prop) (h : w_X10_keeping a0 x1 I Q) : Con K l yX10_keeping (wsT yX10_keeping cX10_keeping 2 (some .int)) rm_X10_keeping [.ref a0, .int x1] (I, J, B) (va_Qi (S := MI) Q (fun u t => HP K (u, J, B) t.heap) (AA K)) := by
  refine Con.ofJ RX10 rfl (by decide) (Nat.le_of_ble_eq_true rfl) (fun m H0 w G => ?_)
  unfold w_X10_keeping at h
  show Jg K m 2 H0 w 0 [(0, .ref a0), (1, .int x1)] [] (I, J, B)
  refine j_iload_n G 1 1 dX10_keeping_0 rfl rfl ?_
  refine j_iconst G (0 : Int32) dX10_keeping_1 (by decide) ?_
  refine j_bipush G (7 : Int32) dX10_keeping_2 (by decide) ?_
  refine j_ci (rn_S G (n := 3) (As := [.int x1, .int (0 : Int32), .int (7 : Int32)]) (rest := []) (c_X10_isIn K hW l x1 (0 : Int32) (7 : Int32) I J B _ h) ml_X10_190 st_X10_isIn in_X10 co_X10_isIn (by decide +kernel) rfl rfl (by decide) (by decide) rfl rfl (Nat.le_of_ble_eq_true rfl) dX10_keeping_4) (fun r1 _ h => ?_)
  refine j_if_ne G 12 dX10_keeping_7 (by decide) (fun c2 => ?_) (fun c2 => ?_)
  · have h := h.1 c2
    refine j_aload_n G 0 0 dX10_keeping_12 rfl rfl ?_
    refine j_iconst G (0 : Int32) dX10_keeping_13 (by decide) ?_
    refine j_sipush G (516 : Int32) dX10_keeping_14 (by decide) ?_
    refine j_cv (rn_V G hW (ci := 11) (n := 2) (As := [.int (0 : Int32), .int (516 : Int32)]) (rest := []) (c_X10_copies K hW l a0 (0 : Int32) (516 : Int32) k0 I J B _ h) k0 (by decide) rfl ml_X10_177 im_X10_copies se_X10_copies in_X10 co_X10_copies rfl (by decide +kernel) rfl rfl (by decide) (by decide) rfl rfl (Nat.le_of_ble_eq_true rfl) dX10_keeping_17) (fun I3 h => ?_)
    refine j_aload_n G 0 0 dX10_keeping_20 rfl rfl ?_
    have kk4 : kG K (a0 + 1) = (20, 4905) := wk_12_1 hW k0
    refine j_get G hW 11 0 4 (.ref (a0 + 1)) k0 (by decide) rfl (by decide) rfl lay_X10 fl_X10_7 rfl rfl dX10_keeping_21 ?_
    refine j_sipush G (563 : Int32) dX10_keeping_24 (by decide) ?_
    refine j_dup2 G rfl rfl dX10_keeping_27 ?_
    refine j_iald G hW kk4 (vpc rfl) dX10_keeping_28 ?_
    refine j_aload_n G 0 0 dX10_keeping_29 rfl rfl ?_
    refine j_iconst G (0 : Int32) dX10_keeping_30 (by decide) ?_
    refine j_iload_n G 1 1 dX10_keeping_31 rfl rfl ?_
    refine j_ci (rn_V G hW (ci := 11) (n := 2) (As := [.int (0 : Int32), .int x1]) (rest := [.int (I3 (a0 + 1) (ix (563 : Int32))), .int (563 : Int32), .ref (a0 + 1)]) (c_X10_isAim K hW l a0 (0 : Int32) x1 k0 I3 J B _ h) k0 (by decide) rfl ml_X10_70 im_X10_isAim se_X10_isAim in_X10 co_X10_isAim rfl (by decide +kernel) rfl rfl (by decide) (by decide) rfl rfl (Nat.le_of_ble_eq_true rfl) dX10_keeping_32) (fun r5 _ h => ?_)
    refine j_if_eq G 42 dX10_keeping_35 (by decide) (fun c6 => ?_) (fun c6 => ?_)
    · have h := h.1 c6
      refine j_iconst G (1 : Int32) dX10_keeping_42 (by decide) ?_
      refine j_iload_n G 1 1 dX10_keeping_43 rfl rfl ?_
      refine j_ishl G dX10_keeping_44 ?_
      refine j_ior G dX10_keeping_45 ?_
      refine j_iast G hW kk4 (vpc rfl) dX10_keeping_46 ?_
      refine j_mI (fun I7 eI7 => ?_)
      have h := h I7 eI7
      refine j_aload_n G 0 0 dX10_keeping_47 rfl rfl ?_
      refine j_sipush G (516 : Int32) dX10_keeping_48 (by decide) ?_
      refine j_cv (rn_V G hW (ci := 11) (n := 1) (As := [.int (516 : Int32)]) (rest := []) (c_X10_starts K hW l a0 (516 : Int32) k0 I7 J B _ h) k0 (by decide) rfl ml_X10_47 im_X10_starts se_X10_starts in_X10 co_X10_starts rfl (by decide +kernel) rfl rfl (by decide) (by decide) rfl rfl (Nat.le_of_ble_eq_true rfl) dX10_keeping_51) (fun I8 h => ?_)
      refine j_aload_n G 0 0 dX10_keeping_54 rfl rfl ?_
      refine j_ci (rn_V G hW (ci := 11) (n := 0) (As := []) (rest := []) (c_X10_ending K hW l a0 k0 I8 J B _ h) k0 (by decide) rfl ml_X10_186 im_X10_ending se_X10_ending in_X10 co_X10_ending rfl (by decide +kernel) rfl rfl (by decide) (by decide) rfl rfl (Nat.le_of_ble_eq_true rfl) dX10_keeping_55) (fun r9 I10 h => ?_)
      exact j_reti G I10 rfl dX10_keeping_58 h rfl
    · have h := h.2 c6
      refine j_iconst G (0 : Int32) dX10_keeping_38 (by decide) ?_
      refine j_goto G 45 dX10_keeping_39 (by decide) ?_
      refine j_ior G dX10_keeping_45 ?_
      refine j_iast G hW kk4 (vpc rfl) dX10_keeping_46 ?_
      refine j_mI (fun I11 eI11 => ?_)
      have h := h I11 eI11
      refine j_aload_n G 0 0 dX10_keeping_47 rfl rfl ?_
      refine j_sipush G (516 : Int32) dX10_keeping_48 (by decide) ?_
      refine j_cv (rn_V G hW (ci := 11) (n := 1) (As := [.int (516 : Int32)]) (rest := []) (c_X10_starts K hW l a0 (516 : Int32) k0 I11 J B _ h) k0 (by decide) rfl ml_X10_47 im_X10_starts se_X10_starts in_X10 co_X10_starts rfl (by decide +kernel) rfl rfl (by decide) (by decide) rfl rfl (Nat.le_of_ble_eq_true rfl) dX10_keeping_51) (fun I12 h => ?_)
      refine j_aload_n G 0 0 dX10_keeping_54 rfl rfl ?_
      refine j_ci (rn_V G hW (ci := 11) (n := 0) (As := []) (rest := []) (c_X10_ending K hW l a0 k0 I12 J B _ h) k0 (by decide) rfl ml_X10_186 im_X10_ending se_X10_ending in_X10 co_X10_ending rfl (by decide +kernel) rfl rfl (by decide) (by decide) rfl rfl (Nat.le_of_ble_eq_true rfl) dX10_keeping_55) (fun r13 I14 h => ?_)
      exact j_reti G I14 rfl dX10_keeping_58 h rfl
  · have h := h.2 c2
    refine j_iconst G (-1 : Int32) dX10_keeping_10 (by decide) ?_
    exact j_reti G I rfl dX10_keeping_11 h rfl
abbrev rm_X10_best : Room := { frames := 11, cells := 0, slots := 0, locals := 266 }
def w_X10_best_l9 (a0 : Nat)   (Q : Int32 → MI → Prop) (rec : Int32 → Int32 → Int32 → MI → Prop) (x1 : Int32) (x2 : Int32) (x3 : Int32) (I : MI) : Prop :=
(((8 : Int32) ≤ x3 → Q x2 I) ∧
(¬ (8 : Int32) ≤ x3 → (w_X10_isAim a0 (0 : Int32) x3 I (fun r4 =>
((r4 = 0 → (w_X10_keeping a0 x3 I (fun r6 I7 =>
((r6 = (-1 : Int32) → rec x1 x2 (x3 + 1) I7) ∧
(¬ r6 = (-1 : Int32) → ((x1 = (-1 : Int32) → rec r6 x3 (x3 + 1) I7) ∧
(¬ x1 = (-1 : Int32) → ((r6 < x1 → rec r6 x3 (x3 + 1) I7) ∧
(¬ r6 < x1 → rec x1 x2 (x3 + 1) I7))))))))) ∧
(¬ r4 = 0 → rec x1 x2 (x3 + 1) I))))))
set_option maxHeartbeats 4000000 in
set_option maxRecDepth 100000 in
theorem m_X10_best_l9 {K : Kx} {l : Launch} {m : MethodId} {H0 : Heap} {Q : Int32 → MI → Prop} {w : HW} {J : MJ} {B : MR} (G : Gd l rm_X10_best K m RX10 cX10_best 5 H0 (some .int) (va_Qi (S := MI) Q (fun u t => HP K (u, J, B) t.heap) (AA K)) w) (hW : WFK K) (a0 : Nat) (x1 : Int32) (x2 : Int32) (x3 : Int32) (ka0 : (kG K a0).1 = 12) (I : MI)   (h : Lp4 (w_X10_best_l9 a0 Q) x1 x2 x3 I) : Jg K m 5 H0 w 9 [(0, .ref a0), (1, .int x1), (2, .int x2), (3, .int x3)] [] (I, J, B) := by
  obtain ⟨n, h⟩ := h
  refine lpN4_ind (P := (fun (x1 : Int32) (x2 : Int32) (x3 : Int32) (I : MI) => Jg K m 5 H0 w 9 [(0, .ref a0), (1, .int x1), (2, .int x2), (3, .int x3)] [] (I, J, B))) (fun rec hrec x1 x2 x3 I h => ?_) n x1 x2 x3 I h
  unfold w_X10_best_l9 at h
  refine j_iload_n G 3 3 dX10_best_9 rfl rfl ?_
  refine j_bipush G (8 : Int32) dX10_best_10 (by decide) ?_
  refine j_icmp_ge G 65 dX10_best_12 (by decide) (fun c3 => ?_) (fun c3 => ?_)
  · have h := h.1 c3
    refine j_iload_n G 2 2 dX10_best_65 rfl rfl ?_
    exact j_reti G I rfl dX10_best_66 h rfl
  · have h := h.2 c3
    refine j_aload_n G 0 0 dX10_best_15 rfl rfl ?_
    refine j_iconst G (0 : Int32) dX10_best_16 (by decide) ?_
    refine j_iload_n G 3 3 dX10_best_17 rfl rfl ?_
    refine j_ci (rn_V G hW (ci := 11) (n := 2) (As := [.int (0 : Int32), .int x3]) (rest := []) (c_X10_isAim K hW l a0 (0 : Int32) x3 ka0 I J B _ h) ka0 (by decide) rfl ml_X10_70 im_X10_isAim se_X10_isAim in_X10 co_X10_isAim rfl (by decide +kernel) rfl rfl (by decide) (by decide) rfl rfl (Nat.le_of_ble_eq_true rfl) dX10_best_18) (fun r4 _ h => ?_)
    refine j_if_eq G 27 dX10_best_21 (by decide) (fun c5 => ?_) (fun c5 => ?_)
    · have h := h.1 c5
      refine j_aload_n G 0 0 dX10_best_27 rfl rfl ?_
      refine j_iload_n G 3 3 dX10_best_28 rfl rfl ?_
      refine j_ci (rn_V G hW (ci := 11) (n := 1) (As := [.int x3]) (rest := []) (c_X10_keeping K hW l a0 x3 ka0 I J B _ h) ka0 (by decide) rfl ml_X10_196 im_X10_keeping se_X10_keeping in_X10 co_X10_keeping rfl (by decide +kernel) rfl rfl (by decide) (by decide) rfl rfl (Nat.le_of_ble_eq_true rfl) dX10_best_29) (fun r6 I7 h => ?_)
      refine j_istore G [(4, .int r6), (0, .ref a0), (1, .int x1), (2, .int x2), (3, .int x3)] dX10_best_32 (by decide) rfl ?_
      refine j_iload G 0 dX10_best_34 rfl ?_
      refine j_iconst G (-1 : Int32) dX10_best_36 (by decide) ?_
      refine j_icmp_eq G 59 dX10_best_37 (by decide) (fun c8 => ?_) (fun c8 => ?_)
      · have h := h.1 c8
        refine j_iinc G 4 (x3 + 1) [(3, .int (x3 + 1)), (4, .int r6), (0, .ref a0), (1, .int x1), (2, .int x2)] dX10_best_59 rfl rfl (by decide) rfl ?_
        refine j_goto G 9 dX10_best_62 (by decide) ?_
        exact Jg.sub [2, 3, 4, 0] rfl (hrec x1 x2 (x3 + 1) I7 h)
      · have h := h.2 c8
        refine j_iload_n G 2 1 dX10_best_40 rfl rfl ?_
        refine j_iconst G (-1 : Int32) dX10_best_41 (by decide) ?_
        refine j_icmp_eq G 54 dX10_best_42 (by decide) (fun c9 => ?_) (fun c9 => ?_)
        · have h := h.1 c9
          refine j_iload_n G 4 3 dX10_best_54 rfl rfl ?_
          refine j_istore_n G 2 [(2, .int x3), (4, .int r6), (0, .ref a0), (1, .int x1), (3, .int x3)] dX10_best_55 rfl (by decide) rfl ?_
          refine j_iload G 1 dX10_best_56 rfl ?_
          refine j_istore_n G 1 [(1, .int r6), (2, .int x3), (4, .int r6), (0, .ref a0), (3, .int x3)] dX10_best_58 rfl (by decide) rfl ?_
          refine j_iinc G 4 (x3 + 1) [(3, .int (x3 + 1)), (1, .int r6), (2, .int x3), (4, .int r6), (0, .ref a0)] dX10_best_59 rfl rfl (by decide) rfl ?_
          refine j_goto G 9 dX10_best_62 (by decide) ?_
          exact Jg.sub [4, 1, 2, 0] rfl (hrec r6 x3 (x3 + 1) I7 h)
        · have h := h.2 c9
          refine j_iload G 0 dX10_best_45 rfl ?_
          refine j_iload_n G 2 1 dX10_best_47 rfl rfl ?_
          refine j_icmp_lt G 54 dX10_best_48 (by decide) (fun c10 => ?_) (fun c10 => ?_)
          · have h := h.1 c10
            refine j_iload_n G 4 3 dX10_best_54 rfl rfl ?_
            refine j_istore_n G 2 [(2, .int x3), (4, .int r6), (0, .ref a0), (1, .int x1), (3, .int x3)] dX10_best_55 rfl (by decide) rfl ?_
            refine j_iload G 1 dX10_best_56 rfl ?_
            refine j_istore_n G 1 [(1, .int r6), (2, .int x3), (4, .int r6), (0, .ref a0), (3, .int x3)] dX10_best_58 rfl (by decide) rfl ?_
            refine j_iinc G 4 (x3 + 1) [(3, .int (x3 + 1)), (1, .int r6), (2, .int x3), (4, .int r6), (0, .ref a0)] dX10_best_59 rfl rfl (by decide) rfl ?_
            refine j_goto G 9 dX10_best_62 (by decide) ?_
            exact Jg.sub [4, 1, 2, 0] rfl (hrec r6 x3 (x3 + 1) I7 h)
          · have h := h.2 c10
            refine j_goto G 59 dX10_best_51 (by decide) ?_
            refine j_iinc G 4 (x3 + 1) [(3, .int (x3 + 1)), (4, .int r6), (0, .ref a0), (1, .int x1), (2, .int x2)] dX10_best_59 rfl rfl (by decide) rfl ?_
            refine j_goto G 9 dX10_best_62 (by decide) ?_
            exact Jg.sub [2, 3, 4, 0] rfl (hrec x1 x2 (x3 + 1) I7 h)
    · have h := h.2 c5
      refine j_goto G 59 dX10_best_24 (by decide) ?_
      refine j_iinc G 3 (x3 + 1) [(3, .int (x3 + 1)), (0, .ref a0), (1, .int x1), (2, .int x2)] dX10_best_59 rfl rfl (by decide) rfl ?_
      refine j_goto G 9 dX10_best_62 (by decide) ?_
      exact Jg.sub [1, 2, 3, 0] rfl (hrec x1 x2 (x3 + 1) I h)
def w_X10_best (a0 : Nat) (I : MI) (Q : Int32 → MI → Prop) : Prop :=
(w_X10_time a0 I (fun r1 I2 =>
Lp4 (w_X10_best_l9 a0 Q) r1 (-1 : Int32) (0 : Int32) I2))
set_option maxHeartbeats 4000000 in
set_option maxRecDepth 100000 in
theorem c_X10_best (K : Kx) (hW : WFK K) (l : Launch) (a0 : Nat) (k0 : (kG K a0).1 = 12) (I : MI) (J : MJ) (B : MR) (Q : Int32 → MI → Prop) (h : w_X10_best a0 I Q) : Con K l yX10_best (wsT yX10_best cX10_best 5 (some .int)) rm_X10_best [.ref a0] (I, J, B) (va_Qi (S := MI) Q (fun u t => HP K (u, J, B) t.heap) (AA K)) := by
  refine Con.ofJ RX10 rfl (by decide) (Nat.le_of_ble_eq_true rfl) (fun m H0 w G => ?_)
  unfold w_X10_best at h
  show Jg K m 5 H0 w 0 [(0, .ref a0)] [] (I, J, B)
  refine j_aload_n G 0 0 dX10_best_0 rfl rfl ?_
  refine j_ci (rn_V G hW (ci := 11) (n := 0) (As := []) (rest := []) (c_X10_time K hW l a0 k0 I J B _ h) k0 (by decide) rfl ml_X10_193 im_X10_time se_X10_time in_X10 co_X10_time rfl (by decide +kernel) rfl rfl (by decide) (by decide) rfl rfl (Nat.le_of_ble_eq_true rfl) dX10_best_1) (fun r1 I2 h => ?_)
  refine j_istore_n G 1 [(1, .int r1), (0, .ref a0)] dX10_best_4 rfl (by decide) rfl ?_
  refine j_iconst G (-1 : Int32) dX10_best_5 (by decide) ?_
  refine j_istore_n G 2 [(2, .int (-1 : Int32)), (1, .int r1), (0, .ref a0)] dX10_best_6 rfl (by decide) rfl ?_
  refine j_iconst G (0 : Int32) dX10_best_7 (by decide) ?_
  refine j_istore_n G 3 [(3, .int (0 : Int32)), (2, .int (-1 : Int32)), (1, .int r1), (0, .ref a0)] dX10_best_8 rfl (by decide) rfl ?_
  refine Jg.sub [3, 2, 1, 0] rfl (m_X10_best_l9 G hW a0 r1 (-1 : Int32) (0 : Int32) k0 I2 h)
abbrev rm_X10_timeBy : Room := { frames := 10, cells := 0, slots := 0, locals := 245 }
def w_X10_timeBy (a0 : Nat) (x1 : Int32) (x2 : Int32) (I : MI) (Q : Int32 → MI → Prop) : Prop :=
(w_X10_tries a0 I (fun I1 =>
(vp_in ((688 : Int32) + x1) 4905 ∧
(∀ I4, I4 = ui I1 (a0 + 1) (ix ((688 : Int32) + x1)) x2 →
(w_X10_ending a0 I4 (fun r5 I6 =>
Q r5 I6))))))
set_option maxHeartbeats 4000000 in
set_option maxRecDepth 100000 in
theorem c_X10_timeBy (K : Kx) (hW : WFK K) (l : Launch) (a0 : Nat) (x1 : Int32) (x2 : Int32) (k0 : (kG K a0).1 = 12) (I : MI) (J : MJ) (B : MR) (Q : Int32 → MI → Prop) (h : w_X10_timeBy a0 x1 x2 I Q) : Con K l yX10_timeBy (wsT yX10_timeBy cX10_timeBy 3 (some .int)) rm_X10_timeBy [.ref a0, .int x1, .int x2] (I, J, B) (va_Qi (S := MI) Q (fun u t => HP K (u, J, B) t.heap) (AA K)) := by
  refine Con.ofJ RX10 rfl (by decide) (Nat.le_of_ble_eq_true rfl) (fun m H0 w G => ?_)
  unfold w_X10_timeBy at h
  show Jg K m 3 H0 w 0 [(0, .ref a0), (1, .int x1), (2, .int x2)] [] (I, J, B)
  refine j_aload_n G 0 0 dX10_timeBy_0 rfl rfl ?_
  refine j_cv (rn_V G hW (ci := 11) (n := 0) (As := []) (rest := []) (c_X10_tries K hW l a0 k0 I J B _ h) k0 (by decide) rfl ml_X10_183 im_X10_tries se_X10_tries in_X10 co_X10_tries rfl (by decide +kernel) rfl rfl (by decide) (by decide) rfl rfl (Nat.le_of_ble_eq_true rfl) dX10_timeBy_1) (fun I1 h => ?_)
  refine j_aload_n G 0 0 dX10_timeBy_4 rfl rfl ?_
  have kk2 : kG K (a0 + 1) = (20, 4905) := wk_12_1 hW k0
  refine j_get G hW 11 0 4 (.ref (a0 + 1)) k0 (by decide) rfl (by decide) rfl lay_X10 fl_X10_7 rfl rfl dX10_timeBy_5 ?_
  refine j_sipush G (688 : Int32) dX10_timeBy_8 (by decide) ?_
  refine j_iload_n G 1 1 dX10_timeBy_11 rfl rfl ?_
  refine j_iadd G dX10_timeBy_12 ?_
  refine j_iload_n G 2 2 dX10_timeBy_13 rfl rfl ?_
  obtain ⟨b3, h⟩ := h
  refine j_iast G hW kk2 b3 dX10_timeBy_14 ?_
  refine j_mI (fun I4 eI4 => ?_)
  have h := h I4 eI4
  refine j_aload_n G 0 0 dX10_timeBy_15 rfl rfl ?_
  refine j_ci (rn_V G hW (ci := 11) (n := 0) (As := []) (rest := []) (c_X10_ending K hW l a0 k0 I4 J B _ h) k0 (by decide) rfl ml_X10_186 im_X10_ending se_X10_ending in_X10 co_X10_ending rfl (by decide +kernel) rfl rfl (by decide) (by decide) rfl rfl (Nat.le_of_ble_eq_true rfl) dX10_timeBy_16) (fun r5 I6 h => ?_)
  exact j_reti G I6 rfl dX10_timeBy_19 h rfl
