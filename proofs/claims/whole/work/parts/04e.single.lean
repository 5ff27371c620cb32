abbrev rm_X6_startOf : Room := { frames := 1, cells := 0, slots := 0, locals := 48 }
def w_X6_startOf (a0 : Nat) (a1 : Nat) (I : MI) (Q : MI → Prop) : Prop :=
(∀ I3, I3 = uc I (a1 + 4) (a0 + 1) 8 →
(∀ I6, I6 = uc I3 (a1 + 3) (a0 + 2) 32 →
(∀ I7, I7 = ui I6 a0 2 (0 : Int32) →
(∀ I8, I8 = ui I7 a0 3 (0 : Int32) →
(∀ I9, I9 = ui I8 a0 4 (0 : Int32) →
Q I9)))))
set_option maxHeartbeats 4000000 in
set_option maxRecDepth 100000 in
theorem c_X6_startOf (K : Kx) (hW : WFK K) (l : Launch) (a0 : Nat) (a1 : Nat) (k0 : (kG K a0).1 = 8) (k1 : (kG K a1).1 = 4) (I : MI) (J : MJ) (B : MR) (Q : MI → Prop) (h : w_X6_startOf a0 a1 I Q) : Con K l yX6_startOf (wsT yX6_startOf cX6_startOf 2 none) rm_X6_startOf [.ref a0, .ref a1] (I, J, B) (va_Qv (S := MI) Q (fun u t => HP K (u, J, B) t.heap) (AA K)) := by
  refine Con.ofJ RX6 rfl (by decide) (Nat.le_of_ble_eq_true rfl) (fun m H0 w G => ?_)
  unfold w_X6_startOf at h
  show Jg K m 2 H0 w 0 [(0, .ref a0), (1, .ref a1)] [] (I, J, B)
  refine j_aload_n G 1 1 dX6_startOf_0 rfl rfl ?_
  have kk1 : kG K (a1 + 4) = (20, 8) := wk_4_4 hW k1
  refine j_get G hW 3 7 7 (.ref (a1 + 4)) k1 (by decide) rfl (by decide) rfl lay_X2 fl_X6_18 rfl rfl dX6_startOf_1 ?_
  refine j_iconst G (0 : Int32) dX6_startOf_4 (by decide) ?_
  refine j_aload_n G 0 0 dX6_startOf_5 rfl rfl ?_
  have kk2 : kG K (a0 + 1) = (20, 8) := wk_8_1 hW k0
  refine j_get G hW 7 0 4 (.ref (a0 + 1)) k0 (by decide) rfl (by decide) rfl lay_X6 fl_X6_9 rfl rfl dX6_startOf_6 ?_
  refine j_iconst G (0 : Int32) dX6_startOf_9 (by decide) ?_
  refine j_bipush G (8 : Int32) dX6_startOf_10 (by decide) ?_
  refine j_copyi G hW 8 kk1 kk2 (by decide) (by decide) (by decide) (by decide) ml_X6_21 nat_copy st_copy in_J10 (by decide) (by decide) (Nat.le_of_ble_eq_true rfl) dX6_startOf_12 ?_
  refine j_mI (fun I3 eI3 => ?_)
  have h := h I3 eI3
  refine j_aload_n G 1 1 dX6_startOf_15 rfl rfl ?_
  have kk4 : kG K (a1 + 3) = (20, 32) := wk_4_3 hW k1
  refine j_get G hW 3 6 6 (.ref (a1 + 3)) k1 (by decide) rfl (by decide) rfl lay_X2 fl_X6_27 rfl rfl dX6_startOf_16 ?_
  refine j_iconst G (0 : Int32) dX6_startOf_19 (by decide) ?_
  refine j_aload_n G 0 0 dX6_startOf_20 rfl rfl ?_
  have kk5 : kG K (a0 + 2) = (20, 32) := wk_8_2 hW k0
  refine j_get G hW 7 1 5 (.ref (a0 + 2)) k0 (by decide) rfl (by decide) rfl lay_X6 fl_X6_15 rfl rfl dX6_startOf_21 ?_
  refine j_iconst G (0 : Int32) dX6_startOf_24 (by decide) ?_
  refine j_bipush G (32 : Int32) dX6_startOf_25 (by decide) ?_
  refine j_copyi G hW 32 kk4 kk5 (by decide) (by decide) (by decide) (by decide) ml_X6_21 nat_copy st_copy in_J10 (by decide) (by decide) (Nat.le_of_ble_eq_true rfl) dX6_startOf_27 ?_
  refine j_mI (fun I6 eI6 => ?_)
  have h := h I6 eI6
  refine j_aload_n G 0 0 dX6_startOf_30 rfl rfl ?_
  refine j_iconst G (0 : Int32) dX6_startOf_31 (by decide) ?_
  refine j_put G hW 7 2 tyX6 (tyX6 2) tyX6_ok nmX6 k0 (by decide) rfl (by decide) rfl lay_X6 fl_X6_28 rfl rfl (tyX6_ok 2 (by decide)) rfl rfl dX6_startOf_32 ?_
  refine j_mI (fun I7 eI7 => ?_)
  have h := h I7 eI7
  refine j_aload_n G 0 0 dX6_startOf_35 rfl rfl ?_
  refine j_iconst G (0 : Int32) dX6_startOf_36 (by decide) ?_
  refine j_put G hW 7 3 tyX6 (tyX6 3) tyX6_ok nmX6 k0 (by decide) rfl (by decide) rfl lay_X6 fl_X6_32 rfl rfl (tyX6_ok 3 (by decide)) rfl rfl dX6_startOf_37 ?_
  refine j_mI (fun I8 eI8 => ?_)
  have h := h I8 eI8
  refine j_aload_n G 0 0 dX6_startOf_40 rfl rfl ?_
  refine j_iconst G (0 : Int32) dX6_startOf_41 (by decide) ?_
  refine j_put G hW 7 4 tyX6 (tyX6 4) tyX6_ok nmX6 k0 (by decide) rfl (by decide) rfl lay_X6 fl_X6_35 rfl rfl (tyX6_ok 4 (by decide)) (by decide) (by decide) dX6_startOf_42 ?_
  refine j_mI (fun I9 eI9 => ?_)
  have h := h I9 eI9
  exact j_retv G I9 dX6_startOf_45 h rfl
abbrev rm_X6_step : Room := { frames := 1, cells := 0, slots := 0, locals := 22 }
def w_X6_step_p234 (a0 : Nat) (x3 : Int32)  (I : MI)  (Q : MI → Prop) : Prop :=
(∀ I9, I9 = ui I a0 2 x3 →
Q I9)
set_option maxHeartbeats 4000000 in
set_option maxRecDepth 100000 in
theorem m_X6_step_p234 {K : Kx} {l : Launch} {m : MethodId} {H0 : Heap} {Q : MI → Prop} {w : HW} {J : MJ} {B : MR} (G : Gd l rm_X6_step K m RX6 cX6_step 4 H0 none (va_Qv (S := MI) Q (fun u t => HP K (u, J, B) t.heap) (AA K)) w) (hW : WFK K) (a0 : Nat) (x3 : Int32)  (ka0 : (kG K a0).1 = 8)  (I : MI)   (h : w_X6_step_p234 a0 x3 I Q) : Jg K m 4 H0 w 234 [(0, .ref a0), (3, .int x3)] [] (I, J, B) := by
  unfold w_X6_step_p234 at h
  refine j_aload_n G 0 0 dX6_step_234 rfl rfl ?_
  refine j_iload_n G 1 3 dX6_step_235 rfl rfl ?_
  refine j_put G hW 7 2 tyX6 (tyX6 2) tyX6_ok nmX6 ka0 (by decide) rfl (by decide) rfl lay_X6 fl_X6_28 rfl rfl (tyX6_ok 2 (by decide)) rfl rfl dX6_step_236 ?_
  refine j_mI (fun I9 eI9 => ?_)
  have h := h I9 eI9
  exact j_retv G I9 dX6_step_239 h rfl
def w_X6_step (a0 : Nat) (a1 : Nat) (I : MI) (Q : MI → Prop) : Prop :=
(vp_in (I a0 2) 25 ∧
(∀ I4, I4 = ui I a0 3 ((I a0 3) + (1 : Int32)) →
(∀ x3_5, x3_5 = (I4 a0 2) + (1 : Int32) →
(((I4 (a1 + 9 + ix (I a0 2)) 0) = (0 : Int32) → (vp_in (I4 (a1 + 9 + ix (I a0 2)) 1) 8 ∧
(∀ I8, I8 = ui I4 (a0 + 1) (ix (I4 (a1 + 9 + ix (I a0 2)) 1)) (I4 (a1 + 9 + ix (I a0 2)) 4) →
w_X6_step_p234 a0 x3_5 I8 Q))) ∧
((I4 (a1 + 9 + ix (I a0 2)) 0) = (4 : Int32) → (w_X0_cellBy (a1 + 9 + ix (I a0 2)) (a0 + 1) I4 (fun r12 =>
(vp_in r12 32 ∧
(vp_in (I4 (a1 + 9 + ix (I a0 2)) 1) 8 ∧
(∀ I15, I15 = ui I4 (a0 + 1) (ix (I4 (a1 + 9 + ix (I a0 2)) 1)) (I4 (a0 + 2) (ix r12)) →
w_X6_step_p234 a0 x3_5 I15 Q)))))) ∧
((I4 (a1 + 9 + ix (I a0 2)) 0) = (5 : Int32) → (w_X0_cellBy (a1 + 9 + ix (I a0 2)) (a0 + 1) I4 (fun r18 =>
(vp_in (I4 (a1 + 9 + ix (I a0 2)) 1) 8 ∧
(vp_in r18 32 ∧
(∀ I21, I21 = ui I4 (a0 + 2) (ix r18) (I4 (a0 + 1) (ix (I4 (a1 + 9 + ix (I a0 2)) 1))) →
w_X6_step_p234 a0 x3_5 I21 Q)))))) ∧
((I4 (a1 + 9 + ix (I a0 2)) 0) = (6 : Int32) → (∀ x3_22, x3_22 = I4 (a1 + 9 + ix (I a0 2)) 4 →
w_X6_step_p234 a0 x3_22 I4 Q)) ∧
((I4 (a1 + 9 + ix (I a0 2)) 0) = (7 : Int32) → (vp_in (I4 (a1 + 9 + ix (I a0 2)) 2) 8 ∧
(vp_in (I4 (a1 + 9 + ix (I a0 2)) 3) 8 ∧
(w_X0_decide (a1 + 9 + ix (I a0 2)) (I4 (a0 + 1) (ix (I4 (a1 + 9 + ix (I a0 2)) 2))) (I4 (a0 + 1) (ix (I4 (a1 + 9 + ix (I a0 2)) 3))) I4 (fun r26 =>
((r26 = 0 → w_X6_step_p234 a0 x3_5 I4 Q) ∧
(¬ r26 = 0 → (∀ x3_28, x3_28 = I4 (a1 + 9 + ix (I a0 2)) 4 →
w_X6_step_p234 a0 x3_28 I4 Q)))))))) ∧
((I4 (a1 + 9 + ix (I a0 2)) 0) = (8 : Int32) → (∀ I29, I29 = ui I4 a0 4 (1 : Int32) →
(∀ x3_30, x3_30 = I29 a0 2 →
w_X6_step_p234 a0 x3_30 I29 Q))) ∧
(¬ (I4 (a1 + 9 + ix (I a0 2)) 0) = (0 : Int32) → ¬ (I4 (a1 + 9 + ix (I a0 2)) 0) = (4 : Int32) → ¬ (I4 (a1 + 9 + ix (I a0 2)) 0) = (5 : Int32) → ¬ (I4 (a1 + 9 + ix (I a0 2)) 0) = (6 : Int32) → ¬ (I4 (a1 + 9 + ix (I a0 2)) 0) = (7 : Int32) → ¬ (I4 (a1 + 9 + ix (I a0 2)) 0) = (8 : Int32) → (vp_in (I4 (a1 + 9 + ix (I a0 2)) 2) 8 ∧
(vp_in (I4 (a1 + 9 + ix (I a0 2)) 3) 8 ∧
(w_X9_reckon (I4 (a1 + 9 + ix (I a0 2)) 0) (I4 (a0 + 1) (ix (I4 (a1 + 9 + ix (I a0 2)) 2))) (I4 (a0 + 1) (ix (I4 (a1 + 9 + ix (I a0 2)) 3))) (fun r34 =>
(vp_in (I4 (a1 + 9 + ix (I a0 2)) 1) 8 ∧
(∀ I36, I36 = ui I4 (a0 + 1) (ix (I4 (a1 + 9 + ix (I a0 2)) 1)) r34 →
w_X6_step_p234 a0 x3_5 I36 Q)))))))))))
set_option maxHeartbeats 4000000 in
set_option maxRecDepth 100000 in
theorem c_X6_step (K : Kx) (hW : WFK K) (l : Launch) (a0 : Nat) (a1 : Nat) (k0 : (kG K a0).1 = 8) (k1 : (kG K a1).1 = 4) (I : MI) (J : MJ) (B : MR) (Q : MI → Prop) (h : w_X6_step a0 a1 I Q) : Con K l yX6_step (wsT yX6_step cX6_step 4 none) rm_X6_step [.ref a0, .ref a1] (I, J, B) (va_Qv (S := MI) Q (fun u t => HP K (u, J, B) t.heap) (AA K)) := by
  refine Con.ofJ RX6 rfl (by decide) (Nat.le_of_ble_eq_true rfl) (fun m H0 w G => ?_)
  unfold w_X6_step at h
  show Jg K m 4 H0 w 0 [(0, .ref a0), (1, .ref a1)] [] (I, J, B)
  refine j_aload_n G 1 1 dX6_step_0 rfl rfl ?_
  have kk1 : kG K (a1 + 1) = (24, 25) := wk_4_1 hW k1
  refine j_get G hW 3 0 4 (.ref (a1 + 1)) k1 (by decide) rfl (by decide) rfl lay_X2 fl_X6_39 rfl rfl dX6_step_1 ?_
  refine j_aload_n G 0 0 dX6_step_4 rfl rfl ?_
  refine j_get G hW 7 2 0 (.int (I a0 2)) k0 (by decide) rfl (by decide) rfl lay_X6 fl_X6_28 rfl rfl dX6_step_5 ?_
  obtain ⟨b2, h⟩ := h
  have kk3 : (kG K (a1 + 9 + ix (I a0 2))).1 = 2 := wk_a24 (i := I a0 2) hW kk1 b2 (ad3 rfl)
  refine j_aald24 G hW (i := I a0 2) (b := a1 + 9 + ix (I a0 2)) kk1 b2 (ad3 rfl) dX6_step_8 ?_
  refine j_astore_n G 2 [(2, .ref (a1 + 9 + ix (I a0 2))), (0, .ref a0), (1, .ref a1)] dX6_step_9 rfl (by decide) rfl ?_
  refine j_aload_n G 1 0 dX6_step_10 rfl rfl ?_
  refine j_dup G rfl dX6_step_11 ?_
  refine j_get G hW 7 3 0 (.int (I a0 3)) k0 (by decide) rfl (by decide) rfl lay_X6 fl_X6_32 rfl rfl dX6_step_12 ?_
  refine j_iconst G (1 : Int32) dX6_step_15 (by decide) ?_
  refine j_iadd G dX6_step_16 ?_
  refine j_put G hW 7 3 tyX6 (tyX6 3) tyX6_ok nmX6 k0 (by decide) rfl (by decide) rfl lay_X6 fl_X6_32 rfl rfl (tyX6_ok 3 (by decide)) rfl rfl dX6_step_17 ?_
  refine j_mI (fun I4 eI4 => ?_)
  have h := h I4 eI4
  refine j_aload_n G 1 0 dX6_step_20 rfl rfl ?_
  refine j_get G hW 7 2 0 (.int (I4 a0 2)) k0 (by decide) rfl (by decide) rfl lay_X6 fl_X6_28 rfl rfl dX6_step_21 ?_
  refine j_iconst G (1 : Int32) dX6_step_24 (by decide) ?_
  refine j_iadd G dX6_step_25 ?_
  refine j_nm (fun x3_5 ex3_5 => ?_)
  have h := h x3_5 ex3_5
  refine j_istore_n G 3 [(3, .int x3_5), (2, .ref (a1 + 9 + ix (I a0 2))), (0, .ref a0), (1, .ref a1)] dX6_step_26 rfl (by decide) rfl ?_
  refine j_aload_n G 1 2 dX6_step_27 rfl rfl ?_
  refine j_get G hW 1 0 0 (.int (I4 (a1 + 9 + ix (I a0 2)) 0)) kk3 (by decide) rfl (by decide) rfl lay_X0 fl_X6_43 rfl rfl dX6_step_28 ?_
  by_cases c37 : (I4 (a1 + 9 + ix (I a0 2)) 0) = (0 : Int32)
  · have h := h.1 (c37)
    refine j_tableIn G 80 dX6_step_31 (by rw [c37]; decide) (by rw [c37]; decide) (by rw [c37] <;> rfl) (by decide) ?_
    refine j_aload_n G 2 0 dX6_step_80 rfl rfl ?_
    have kk6 : kG K (a0 + 1) = (20, 8) := wk_8_1 hW k0
    refine j_get G hW 7 0 4 (.ref (a0 + 1)) k0 (by decide) rfl (by decide) rfl lay_X6 fl_X6_9 rfl rfl dX6_step_81 ?_
    refine j_aload_n G 1 2 dX6_step_84 rfl rfl ?_
    refine j_get G hW 1 1 0 (.int (I4 (a1 + 9 + ix (I a0 2)) 1)) kk3 (by decide) rfl (by decide) rfl lay_X0 fl_X6_48 rfl rfl dX6_step_85 ?_
    refine j_aload_n G 1 2 dX6_step_88 rfl rfl ?_
    refine j_get G hW 1 4 0 (.int (I4 (a1 + 9 + ix (I a0 2)) 4)) kk3 (by decide) rfl (by decide) rfl lay_X0 fl_X6_51 rfl rfl dX6_step_89 ?_
    obtain ⟨b7, h⟩ := h
    refine j_iast G hW kk6 b7 dX6_step_92 ?_
    refine j_mI (fun I8 eI8 => ?_)
    have h := h I8 eI8
    refine j_goto G 234 dX6_step_93 (by decide) ?_
    exact Jg.sub [2, 0] rfl (m_X6_step_p234 G hW a0 x3_5 k0 I8 h)
  · skip
    by_cases c38 : (I4 (a1 + 9 + ix (I a0 2)) 0) = (4 : Int32)
    · have h := h.2.1 (c38)
      refine j_tableIn G 96 dX6_step_31 (by rw [c38]; decide) (by rw [c38]; decide) (by rw [c38] <;> rfl) (by decide) ?_
      refine j_aload_n G 2 0 dX6_step_96 rfl rfl ?_
      have kk10 : kG K (a0 + 1) = (20, 8) := wk_8_1 hW k0
      refine j_get G hW 7 0 4 (.ref (a0 + 1)) k0 (by decide) rfl (by decide) rfl lay_X6 fl_X6_9 rfl rfl dX6_step_97 ?_
      refine j_aload_n G 1 2 dX6_step_100 rfl rfl ?_
      refine j_get G hW 1 1 0 (.int (I4 (a1 + 9 + ix (I a0 2)) 1)) kk3 (by decide) rfl (by decide) rfl lay_X0 fl_X6_48 rfl rfl dX6_step_101 ?_
      refine j_aload_n G 2 0 dX6_step_104 rfl rfl ?_
      have kk11 : kG K (a0 + 2) = (20, 32) := wk_8_2 hW k0
      refine j_get G hW 7 1 5 (.ref (a0 + 2)) k0 (by decide) rfl (by decide) rfl lay_X6 fl_X6_15 rfl rfl dX6_step_105 ?_
      refine j_aload_n G 1 2 dX6_step_108 rfl rfl ?_
      refine j_aload_n G 2 0 dX6_step_109 rfl rfl ?_
      refine j_get G hW 7 0 4 (.ref (a0 + 1)) k0 (by decide) rfl (by decide) rfl lay_X6 fl_X6_9 rfl rfl dX6_step_110 ?_
      refine j_ci (rn_V G hW (ci := 1) (n := 1) (As := [.ref (a0 + 1)]) (rest := [.ref (a0 + 2), .int (I4 (a1 + 9 + ix (I a0 2)) 1), .ref (a0 + 1)]) (c_X0_cellBy K hW l (a1 + 9 + ix (I a0 2)) (a0 + 1) kk3 kk10 I4 J B _ h) kk3 (by decide) rfl ml_X6_54 im_X0_cellBy se_X0_cellBy in_X0 co_X0_cellBy rfl (by decide +kernel) rfl rfl (by decide) (by decide) rfl rfl (Nat.le_of_ble_eq_true rfl) dX6_step_113) (fun r12 _ h => ?_)
      obtain ⟨b13, h⟩ := h
      refine j_iald G hW kk11 b13 dX6_step_116 ?_
      obtain ⟨b14, h⟩ := h
      refine j_iast G hW kk10 b14 dX6_step_117 ?_
      refine j_mI (fun I15 eI15 => ?_)
      have h := h I15 eI15
      refine j_goto G 234 dX6_step_118 (by decide) ?_
      exact Jg.sub [2, 0] rfl (m_X6_step_p234 G hW a0 x3_5 k0 I15 h)
    · skip
      by_cases c39 : (I4 (a1 + 9 + ix (I a0 2)) 0) = (5 : Int32)
      · have h := h.2.2.1 (c39)
        refine j_tableIn G 121 dX6_step_31 (by rw [c39]; decide) (by rw [c39]; decide) (by rw [c39] <;> rfl) (by decide) ?_
        refine j_aload_n G 2 0 dX6_step_121 rfl rfl ?_
        have kk16 : kG K (a0 + 2) = (20, 32) := wk_8_2 hW k0
        refine j_get G hW 7 1 5 (.ref (a0 + 2)) k0 (by decide) rfl (by decide) rfl lay_X6 fl_X6_15 rfl rfl dX6_step_122 ?_
        refine j_aload_n G 1 2 dX6_step_125 rfl rfl ?_
        refine j_aload_n G 2 0 dX6_step_126 rfl rfl ?_
        have kk17 : kG K (a0 + 1) = (20, 8) := wk_8_1 hW k0
        refine j_get G hW 7 0 4 (.ref (a0 + 1)) k0 (by decide) rfl (by decide) rfl lay_X6 fl_X6_9 rfl rfl dX6_step_127 ?_
        refine j_ci (rn_V G hW (ci := 1) (n := 1) (As := [.ref (a0 + 1)]) (rest := [.ref (a0 + 2)]) (c_X0_cellBy K hW l (a1 + 9 + ix (I a0 2)) (a0 + 1) kk3 kk17 I4 J B _ h) kk3 (by decide) rfl ml_X6_54 im_X0_cellBy se_X0_cellBy in_X0 co_X0_cellBy rfl (by decide +kernel) rfl rfl (by decide) (by decide) rfl rfl (Nat.le_of_ble_eq_true rfl) dX6_step_130) (fun r18 _ h => ?_)
        refine j_aload_n G 2 0 dX6_step_133 rfl rfl ?_
        refine j_get G hW 7 0 4 (.ref (a0 + 1)) k0 (by decide) rfl (by decide) rfl lay_X6 fl_X6_9 rfl rfl dX6_step_134 ?_
        refine j_aload_n G 1 2 dX6_step_137 rfl rfl ?_
        refine j_get G hW 1 1 0 (.int (I4 (a1 + 9 + ix (I a0 2)) 1)) kk3 (by decide) rfl (by decide) rfl lay_X0 fl_X6_48 rfl rfl dX6_step_138 ?_
        obtain ⟨b19, h⟩ := h
        refine j_iald G hW kk17 b19 dX6_step_141 ?_
        obtain ⟨b20, h⟩ := h
        refine j_iast G hW kk16 b20 dX6_step_142 ?_
        refine j_mI (fun I21 eI21 => ?_)
        have h := h I21 eI21
        refine j_goto G 234 dX6_step_143 (by decide) ?_
        exact Jg.sub [2, 0] rfl (m_X6_step_p234 G hW a0 x3_5 k0 I21 h)
      · skip
        by_cases c40 : (I4 (a1 + 9 + ix (I a0 2)) 0) = (6 : Int32)
        · have h := h.2.2.2.1 (c40)
          refine j_tableIn G 146 dX6_step_31 (by rw [c40]; decide) (by rw [c40]; decide) (by rw [c40] <;> rfl) (by decide) ?_
          refine j_aload_n G 1 2 dX6_step_146 rfl rfl ?_
          refine j_get G hW 1 4 0 (.int (I4 (a1 + 9 + ix (I a0 2)) 4)) kk3 (by decide) rfl (by decide) rfl lay_X0 fl_X6_51 rfl rfl dX6_step_147 ?_
          refine j_nm (fun x3_22 ex3_22 => ?_)
          have h := h x3_22 ex3_22
          refine j_istore_n G 3 [(3, .int x3_22), (2, .ref (a1 + 9 + ix (I a0 2))), (0, .ref a0), (1, .ref a1)] dX6_step_150 rfl (by decide) rfl ?_
          refine j_goto G 234 dX6_step_151 (by decide) ?_
          exact Jg.sub [2, 0] rfl (m_X6_step_p234 G hW a0 x3_22 k0 I4 h)
        · skip
          by_cases c41 : (I4 (a1 + 9 + ix (I a0 2)) 0) = (7 : Int32)
          · have h := h.2.2.2.2.1 (c41)
            refine j_tableIn G 154 dX6_step_31 (by rw [c41]; decide) (by rw [c41]; decide) (by rw [c41] <;> rfl) (by decide) ?_
            refine j_aload_n G 1 2 dX6_step_154 rfl rfl ?_
            refine j_aload_n G 2 0 dX6_step_155 rfl rfl ?_
            have kk23 : kG K (a0 + 1) = (20, 8) := wk_8_1 hW k0
            refine j_get G hW 7 0 4 (.ref (a0 + 1)) k0 (by decide) rfl (by decide) rfl lay_X6 fl_X6_9 rfl rfl dX6_step_156 ?_
            refine j_aload_n G 1 2 dX6_step_159 rfl rfl ?_
            refine j_get G hW 1 2 0 (.int (I4 (a1 + 9 + ix (I a0 2)) 2)) kk3 (by decide) rfl (by decide) rfl lay_X0 fl_X6_58 rfl rfl dX6_step_160 ?_
            obtain ⟨b24, h⟩ := h
            refine j_iald G hW kk23 b24 dX6_step_163 ?_
            refine j_aload_n G 2 0 dX6_step_164 rfl rfl ?_
            refine j_get G hW 7 0 4 (.ref (a0 + 1)) k0 (by decide) rfl (by decide) rfl lay_X6 fl_X6_9 rfl rfl dX6_step_165 ?_
            refine j_aload_n G 1 2 dX6_step_168 rfl rfl ?_
            refine j_get G hW 1 3 0 (.int (I4 (a1 + 9 + ix (I a0 2)) 3)) kk3 (by decide) rfl (by decide) rfl lay_X0 fl_X6_61 rfl rfl dX6_step_169 ?_
            obtain ⟨b25, h⟩ := h
            refine j_iald G hW kk23 b25 dX6_step_172 ?_
            refine j_ci (rn_V G hW (ci := 1) (n := 2) (As := [.int (I4 (a0 + 1) (ix (I4 (a1 + 9 + ix (I a0 2)) 2))), .int (I4 (a0 + 1) (ix (I4 (a1 + 9 + ix (I a0 2)) 3)))]) (rest := []) (c_X0_decide K hW l (a1 + 9 + ix (I a0 2)) (I4 (a0 + 1) (ix (I4 (a1 + 9 + ix (I a0 2)) 2))) (I4 (a0 + 1) (ix (I4 (a1 + 9 + ix (I a0 2)) 3))) kk3 I4 J B _ h) kk3 (by decide) rfl ml_X6_64 im_X0_decide se_X0_decide in_X0 co_X0_decide rfl (by decide +kernel) rfl rfl (by decide) (by decide) rfl rfl (Nat.le_of_ble_eq_true rfl) dX6_step_173) (fun r26 _ h => ?_)
            refine j_if_eq G 234 dX6_step_176 (by decide) (fun c27 => ?_) (fun c27 => ?_)
            · have h := h.1 c27
              exact Jg.sub [2, 0] rfl (m_X6_step_p234 G hW a0 x3_5 k0 I4 h)
            · have h := h.2 c27
              refine j_aload_n G 1 2 dX6_step_179 rfl rfl ?_
              refine j_get G hW 1 4 0 (.int (I4 (a1 + 9 + ix (I a0 2)) 4)) kk3 (by decide) rfl (by decide) rfl lay_X0 fl_X6_51 rfl rfl dX6_step_180 ?_
              refine j_nm (fun x3_28 ex3_28 => ?_)
              have h := h x3_28 ex3_28
              refine j_istore_n G 3 [(3, .int x3_28), (2, .ref (a1 + 9 + ix (I a0 2))), (0, .ref a0), (1, .ref a1)] dX6_step_183 rfl (by decide) rfl ?_
              refine j_goto G 234 dX6_step_184 (by decide) ?_
              exact Jg.sub [2, 0] rfl (m_X6_step_p234 G hW a0 x3_28 k0 I4 h)
          · skip
            by_cases c42 : (I4 (a1 + 9 + ix (I a0 2)) 0) = (8 : Int32)
            · have h := h.2.2.2.2.2.1 (c42)
              refine j_tableIn G 187 dX6_step_31 (by rw [c42]; decide) (by rw [c42]; decide) (by rw [c42] <;> rfl) (by decide) ?_
              refine j_aload_n G 2 0 dX6_step_187 rfl rfl ?_
              refine j_iconst G (1 : Int32) dX6_step_188 (by decide) ?_
              refine j_put G hW 7 4 tyX6 (tyX6 4) tyX6_ok nmX6 k0 (by decide) rfl (by decide) rfl lay_X6 fl_X6_35 rfl rfl (tyX6_ok 4 (by decide)) (by decide) (by decide) dX6_step_189 ?_
              refine j_mI (fun I29 eI29 => ?_)
              have h := h I29 eI29
              refine j_aload_n G 2 0 dX6_step_192 rfl rfl ?_
              refine j_get G hW 7 2 0 (.int (I29 a0 2)) k0 (by decide) rfl (by decide) rfl lay_X6 fl_X6_28 rfl rfl dX6_step_193 ?_
              refine j_nm (fun x3_30 ex3_30 => ?_)
              have h := h x3_30 ex3_30
              refine j_istore_n G 3 [(3, .int x3_30), (2, .ref (a1 + 9 + ix (I a0 2))), (0, .ref a0), (1, .ref a1)] dX6_step_196 rfl (by decide) rfl ?_
              refine j_goto G 234 dX6_step_197 (by decide) ?_
              exact Jg.sub [2, 0] rfl (m_X6_step_p234 G hW a0 x3_30 k0 I29 h)
            · skip
              have h := h.2.2.2.2.2.2 c37 c38 c39 c40 c41 c42
              by_cases c43 : (I4 (a1 + 9 + ix (I a0 2)) 0) = (1 : Int32)
              · refine j_tableIn G 200 dX6_step_31 (by rw [c43]; decide) (by rw [c43]; decide) (by rw [c43] <;> rfl) (by decide) ?_
                refine j_aload_n G 2 0 dX6_step_200 rfl rfl ?_
                have kk31 : kG K (a0 + 1) = (20, 8) := wk_8_1 hW k0
                refine j_get G hW 7 0 4 (.ref (a0 + 1)) k0 (by decide) rfl (by decide) rfl lay_X6 fl_X6_9 rfl rfl dX6_step_201 ?_
                refine j_aload_n G 1 2 dX6_step_204 rfl rfl ?_
                refine j_get G hW 1 1 0 (.int (I4 (a1 + 9 + ix (I a0 2)) 1)) kk3 (by decide) rfl (by decide) rfl lay_X0 fl_X6_48 rfl rfl dX6_step_205 ?_
                refine j_aload_n G 1 2 dX6_step_208 rfl rfl ?_
                refine j_get G hW 1 0 0 (.int (I4 (a1 + 9 + ix (I a0 2)) 0)) kk3 (by decide) rfl (by decide) rfl lay_X0 fl_X6_43 rfl rfl dX6_step_209 ?_
                refine j_aload_n G 2 0 dX6_step_212 rfl rfl ?_
                refine j_get G hW 7 0 4 (.ref (a0 + 1)) k0 (by decide) rfl (by decide) rfl lay_X6 fl_X6_9 rfl rfl dX6_step_213 ?_
                refine j_aload_n G 1 2 dX6_step_216 rfl rfl ?_
                refine j_get G hW 1 2 0 (.int (I4 (a1 + 9 + ix (I a0 2)) 2)) kk3 (by decide) rfl (by decide) rfl lay_X0 fl_X6_58 rfl rfl dX6_step_217 ?_
                obtain ⟨b32, h⟩ := h
                refine j_iald G hW kk31 b32 dX6_step_220 ?_
                refine j_aload_n G 2 0 dX6_step_221 rfl rfl ?_
                refine j_get G hW 7 0 4 (.ref (a0 + 1)) k0 (by decide) rfl (by decide) rfl lay_X6 fl_X6_9 rfl rfl dX6_step_222 ?_
                refine j_aload_n G 1 2 dX6_step_225 rfl rfl ?_
                refine j_get G hW 1 3 0 (.int (I4 (a1 + 9 + ix (I a0 2)) 3)) kk3 (by decide) rfl (by decide) rfl lay_X0 fl_X6_61 rfl rfl dX6_step_226 ?_
                obtain ⟨b33, h⟩ := h
                refine j_iald G hW kk31 b33 dX6_step_229 ?_
                refine j_ci (rn_N G (n := 3) (As := [.int (I4 (a1 + 9 + ix (I a0 2)) 0), .int (I4 (a0 + 1) (ix (I4 (a1 + 9 + ix (I a0 2)) 2))), .int (I4 (a0 + 1) (ix (I4 (a1 + 9 + ix (I a0 2)) 3)))]) (rest := [.int (I4 (a1 + 9 + ix (I a0 2)) 1), .ref (a0 + 1)]) (c_X9_reckon K hW l (I4 (a1 + 9 + ix (I a0 2)) 0) (I4 (a0 + 1) (ix (I4 (a1 + 9 + ix (I a0 2)) 2))) (I4 (a0 + 1) (ix (I4 (a1 + 9 + ix (I a0 2)) 3))) I4 J B _ h) (List.mem_of_getElem? (i := 9) rfl) st_X9_reckon in_X9 co_X9_reckon (by decide +kernel) rfl rfl (by decide) (by decide) rfl rfl (Nat.le_of_ble_eq_true rfl) dX6_step_230) (fun r34 _ h => ?_)
                obtain ⟨b35, h⟩ := h
                refine j_iast G hW kk31 b35 dX6_step_233 ?_
                refine j_mI (fun I36 eI36 => ?_)
                have h := h I36 eI36
                exact Jg.sub [2, 0] rfl (m_X6_step_p234 G hW a0 x3_5 k0 I36 h)
              · skip
                by_cases c44 : (I4 (a1 + 9 + ix (I a0 2)) 0) = (2 : Int32)
                · refine j_tableIn G 200 dX6_step_31 (by rw [c44]; decide) (by rw [c44]; decide) (by rw [c44] <;> rfl) (by decide) ?_
                  refine j_aload_n G 2 0 dX6_step_200 rfl rfl ?_
                  have kk31 : kG K (a0 + 1) = (20, 8) := wk_8_1 hW k0
                  refine j_get G hW 7 0 4 (.ref (a0 + 1)) k0 (by decide) rfl (by decide) rfl lay_X6 fl_X6_9 rfl rfl dX6_step_201 ?_
                  refine j_aload_n G 1 2 dX6_step_204 rfl rfl ?_
                  refine j_get G hW 1 1 0 (.int (I4 (a1 + 9 + ix (I a0 2)) 1)) kk3 (by decide) rfl (by decide) rfl lay_X0 fl_X6_48 rfl rfl dX6_step_205 ?_
                  refine j_aload_n G 1 2 dX6_step_208 rfl rfl ?_
                  refine j_get G hW 1 0 0 (.int (I4 (a1 + 9 + ix (I a0 2)) 0)) kk3 (by decide) rfl (by decide) rfl lay_X0 fl_X6_43 rfl rfl dX6_step_209 ?_
                  refine j_aload_n G 2 0 dX6_step_212 rfl rfl ?_
                  refine j_get G hW 7 0 4 (.ref (a0 + 1)) k0 (by decide) rfl (by decide) rfl lay_X6 fl_X6_9 rfl rfl dX6_step_213 ?_
                  refine j_aload_n G 1 2 dX6_step_216 rfl rfl ?_
                  refine j_get G hW 1 2 0 (.int (I4 (a1 + 9 + ix (I a0 2)) 2)) kk3 (by decide) rfl (by decide) rfl lay_X0 fl_X6_58 rfl rfl dX6_step_217 ?_
                  obtain ⟨b32, h⟩ := h
                  refine j_iald G hW kk31 b32 dX6_step_220 ?_
                  refine j_aload_n G 2 0 dX6_step_221 rfl rfl ?_
                  refine j_get G hW 7 0 4 (.ref (a0 + 1)) k0 (by decide) rfl (by decide) rfl lay_X6 fl_X6_9 rfl rfl dX6_step_222 ?_
                  refine j_aload_n G 1 2 dX6_step_225 rfl rfl ?_
                  refine j_get G hW 1 3 0 (.int (I4 (a1 + 9 + ix (I a0 2)) 3)) kk3 (by decide) rfl (by decide) rfl lay_X0 fl_X6_61 rfl rfl dX6_step_226 ?_
                  obtain ⟨b33, h⟩ := h
                  refine j_iald G hW kk31 b33 dX6_step_229 ?_
                  refine j_ci (rn_N G (n := 3) (As := [.int (I4 (a1 + 9 + ix (I a0 2)) 0), .int (I4 (a0 + 1) (ix (I4 (a1 + 9 + ix (I a0 2)) 2))), .int (I4 (a0 + 1) (ix (I4 (a1 + 9 + ix (I a0 2)) 3)))]) (rest := [.int (I4 (a1 + 9 + ix (I a0 2)) 1), .ref (a0 + 1)]) (c_X9_reckon K hW l (I4 (a1 + 9 + ix (I a0 2)) 0) (I4 (a0 + 1) (ix (I4 (a1 + 9 + ix (I a0 2)) 2))) (I4 (a0 + 1) (ix (I4 (a1 + 9 + ix (I a0 2)) 3))) I4 J B _ h) (List.mem_of_getElem? (i := 9) rfl) st_X9_reckon in_X9 co_X9_reckon (by decide +kernel) rfl rfl (by decide) (by decide) rfl rfl (Nat.le_of_ble_eq_true rfl) dX6_step_230) (fun r34 _ h => ?_)
                  obtain ⟨b35, h⟩ := h
                  refine j_iast G hW kk31 b35 dX6_step_233 ?_
                  refine j_mI (fun I36 eI36 => ?_)
                  have h := h I36 eI36
                  exact Jg.sub [2, 0] rfl (m_X6_step_p234 G hW a0 x3_5 k0 I36 h)
                · skip
                  by_cases c45 : (I4 (a1 + 9 + ix (I a0 2)) 0) = (3 : Int32)
                  · refine j_tableIn G 200 dX6_step_31 (by rw [c45]; decide) (by rw [c45]; decide) (by rw [c45] <;> rfl) (by decide) ?_
                    refine j_aload_n G 2 0 dX6_step_200 rfl rfl ?_
                    have kk31 : kG K (a0 + 1) = (20, 8) := wk_8_1 hW k0
                    refine j_get G hW 7 0 4 (.ref (a0 + 1)) k0 (by decide) rfl (by decide) rfl lay_X6 fl_X6_9 rfl rfl dX6_step_201 ?_
                    refine j_aload_n G 1 2 dX6_step_204 rfl rfl ?_
                    refine j_get G hW 1 1 0 (.int (I4 (a1 + 9 + ix (I a0 2)) 1)) kk3 (by decide) rfl (by decide) rfl lay_X0 fl_X6_48 rfl rfl dX6_step_205 ?_
                    refine j_aload_n G 1 2 dX6_step_208 rfl rfl ?_
                    refine j_get G hW 1 0 0 (.int (I4 (a1 + 9 + ix (I a0 2)) 0)) kk3 (by decide) rfl (by decide) rfl lay_X0 fl_X6_43 rfl rfl dX6_step_209 ?_
                    refine j_aload_n G 2 0 dX6_step_212 rfl rfl ?_
                    refine j_get G hW 7 0 4 (.ref (a0 + 1)) k0 (by decide) rfl (by decide) rfl lay_X6 fl_X6_9 rfl rfl dX6_step_213 ?_
                    refine j_aload_n G 1 2 dX6_step_216 rfl rfl ?_
                    refine j_get G hW 1 2 0 (.int (I4 (a1 + 9 + ix (I a0 2)) 2)) kk3 (by decide) rfl (by decide) rfl lay_X0 fl_X6_58 rfl rfl dX6_step_217 ?_
                    obtain ⟨b32, h⟩ := h
                    refine j_iald G hW kk31 b32 dX6_step_220 ?_
                    refine j_aload_n G 2 0 dX6_step_221 rfl rfl ?_
                    refine j_get G hW 7 0 4 (.ref (a0 + 1)) k0 (by decide) rfl (by decide) rfl lay_X6 fl_X6_9 rfl rfl dX6_step_222 ?_
                    refine j_aload_n G 1 2 dX6_step_225 rfl rfl ?_
                    refine j_get G hW 1 3 0 (.int (I4 (a1 + 9 + ix (I a0 2)) 3)) kk3 (by decide) rfl (by decide) rfl lay_X0 fl_X6_61 rfl rfl dX6_step_226 ?_
                    obtain ⟨b33, h⟩ := h
                    refine j_iald G hW kk31 b33 dX6_step_229 ?_
                    refine j_ci (rn_N G (n := 3) (As := [.int (I4 (a1 + 9 + ix (I a0 2)) 0), .int (I4 (a0 + 1) (ix (I4 (a1 + 9 + ix (I a0 2)) 2))), .int (I4 (a0 + 1) (ix (I4 (a1 + 9 + ix (I a0 2)) 3)))]) (rest := [.int (I4 (a1 + 9 + ix (I a0 2)) 1), .ref (a0 + 1)]) (c_X9_reckon K hW l (I4 (a1 + 9 + ix (I a0 2)) 0) (I4 (a0 + 1) (ix (I4 (a1 + 9 + ix (I a0 2)) 2))) (I4 (a0 + 1) (ix (I4 (a1 + 9 + ix (I a0 2)) 3))) I4 J B _ h) (List.mem_of_getElem? (i := 9) rfl) st_X9_reckon in_X9 co_X9_reckon (by decide +kernel) rfl rfl (by decide) (by decide) rfl rfl (Nat.le_of_ble_eq_true rfl) dX6_step_230) (fun r34 _ h => ?_)
                    obtain ⟨b35, h⟩ := h
                    refine j_iast G hW kk31 b35 dX6_step_233 ?_
                    refine j_mI (fun I36 eI36 => ?_)
                    have h := h I36 eI36
                    exact Jg.sub [2, 0] rfl (m_X6_step_p234 G hW a0 x3_5 k0 I36 h)
                  · skip
                    have nc37 := sw_ne (n := 0) rfl c37
                    have nc43 := sw_ne (n := 1) rfl c43
                    have nc44 := sw_ne (n := 2) rfl c44
                    have nc45 := sw_ne (n := 3) rfl c45
                    have nc38 := sw_ne (n := 4) rfl c38
                    have nc39 := sw_ne (n := 5) rfl c39
                    have nc40 := sw_ne (n := 6) rfl c40
                    have nc41 := sw_ne (n := 7) rfl c41
                    have nc42 := sw_ne (n := 8) rfl c42
                    refine j_tableOut G 200 dX6_step_31 (by omega) (by decide) ?_
                    refine j_aload_n G 2 0 dX6_step_200 rfl rfl ?_
                    have kk31 : kG K (a0 + 1) = (20, 8) := wk_8_1 hW k0
                    refine j_get G hW 7 0 4 (.ref (a0 + 1)) k0 (by decide) rfl (by decide) rfl lay_X6 fl_X6_9 rfl rfl dX6_step_201 ?_
                    refine j_aload_n G 1 2 dX6_step_204 rfl rfl ?_
                    refine j_get G hW 1 1 0 (.int (I4 (a1 + 9 + ix (I a0 2)) 1)) kk3 (by decide) rfl (by decide) rfl lay_X0 fl_X6_48 rfl rfl dX6_step_205 ?_
                    refine j_aload_n G 1 2 dX6_step_208 rfl rfl ?_
                    refine j_get G hW 1 0 0 (.int (I4 (a1 + 9 + ix (I a0 2)) 0)) kk3 (by decide) rfl (by decide) rfl lay_X0 fl_X6_43 rfl rfl dX6_step_209 ?_
                    refine j_aload_n G 2 0 dX6_step_212 rfl rfl ?_
                    refine j_get G hW 7 0 4 (.ref (a0 + 1)) k0 (by decide) rfl (by decide) rfl lay_X6 fl_X6_9 rfl rfl dX6_step_213 ?_
                    refine j_aload_n G 1 2 dX6_step_216 rfl rfl ?_
                    refine j_get G hW 1 2 0 (.int (I4 (a1 + 9 + ix (I a0 2)) 2)) kk3 (by decide) rfl (by decide) rfl lay_X0 fl_X6_58 rfl rfl dX6_step_217 ?_
                    obtain ⟨b32, h⟩ := h
                    refine j_iald G hW kk31 b32 dX6_step_220 ?_
                    refine j_aload_n G 2 0 dX6_step_221 rfl rfl ?_
                    refine j_get G hW 7 0 4 (.ref (a0 + 1)) k0 (by decide) rfl (by decide) rfl lay_X6 fl_X6_9 rfl rfl dX6_step_222 ?_
                    refine j_aload_n G 1 2 dX6_step_225 rfl rfl ?_
                    refine j_get G hW 1 3 0 (.int (I4 (a1 + 9 + ix (I a0 2)) 3)) kk3 (by decide) rfl (by decide) rfl lay_X0 fl_X6_61 rfl rfl dX6_step_226 ?_
                    obtain ⟨b33, h⟩ := h
                    refine j_iald G hW kk31 b33 dX6_step_229 ?_
                    refine j_ci (rn_N G (n := 3) (As := [.int (I4 (a1 + 9 + ix (I a0 2)) 0), .int (I4 (a0 + 1) (ix (I4 (a1 + 9 + ix (I a0 2)) 2))), .int (I4 (a0 + 1) (ix (I4 (a1 + 9 + ix (I a0 2)) 3)))]) (rest := [.int (I4 (a1 + 9 + ix (I a0 2)) 1), .ref (a0 + 1)]) (c_X9_reckon K hW l (I4 (a1 + 9 + ix (I a0 2)) 0) (I4 (a0 + 1) (ix (I4 (a1 + 9 + ix (I a0 2)) 2))) (I4 (a0 + 1) (ix (I4 (a1 + 9 + ix (I a0 2)) 3))) I4 J B _ h) (List.mem_of_getElem? (i := 9) rfl) st_X9_reckon in_X9 co_X9_reckon (by decide +kernel) rfl rfl (by decide) (by decide) rfl rfl (Nat.le_of_ble_eq_true rfl) dX6_step_230) (fun r34 _ h => ?_)
                    obtain ⟨b35, h⟩ := h
                    refine j_iast G hW kk31 b35 dX6_step_233 ?_
                    refine j_mI (fun I36 eI36 => ?_)
                    have h := h I36 eI36
                    exact Jg.sub [2, 0] rfl (m_X6_step_p234 G hW a0 x3_5 k0 I36 h)
abbrev rm_X6_figure : Room := { frames := 0, cells := 0, slots := 0, locals := 0 }
def w_X6_figure_p84 (a0 : Nat) (x1 : Int32)  (I : MI)  (Q : Int32 →  Prop) : Prop :=
((x1 < (20 : Int32) → Q (-1 : Int32)) ∧
(¬ x1 < (20 : Int32) → (((52 : Int32) ≤ x1 → Q (-1 : Int32)) ∧
(¬ (52 : Int32) ≤ x1 → (vp_in (x1 - (20 : Int32)) 32 ∧
Q (I (a0 + 2) (ix (x1 - (20 : Int32)))))))))
set_option maxHeartbeats 4000000 in
set_option maxRecDepth 100000 in
theorem m_X6_figure_p84 {K : Kx} {l : Launch} {m : MethodId} {H0 : Heap} {Q : Int32 →  Prop} {w : HW} {I : MI} {J : MJ} {B : MR} (G : Gd l rm_X6_figure K m RX6 cX6_figure 2 H0 (some .int) (va_Qi (S := Unit) (fun r _ => Q r) (fun u t => HP K (I, J, B) t.heap) (AA K)) w) (hW : WFK K) (a0 : Nat) (x1 : Int32)  (ka0 : (kG K a0).1 = 8)     (h : w_X6_figure_p84 a0 x1 I Q) : Jg K m 2 H0 w 84 [(0, .ref a0), (1, .int x1)] [] (I, J, B) := by
  unfold w_X6_figure_p84 at h
  refine j_iload_n G 1 1 dX6_figure_84 rfl rfl ?_
  refine j_bipush G (20 : Int32) dX6_figure_85 (by decide) ?_
  refine j_icmp_lt G 108 dX6_figure_87 (by decide) (fun c4 => ?_) (fun c4 => ?_)
  · have h := h.1 c4
    refine j_iconst G (-1 : Int32) dX6_figure_108 (by decide) ?_
    exact j_reti G () rfl dX6_figure_109 h rfl
  · have h := h.2 c4
    refine j_iload_n G 1 1 dX6_figure_90 rfl rfl ?_
    refine j_bipush G (52 : Int32) dX6_figure_91 (by decide) ?_
    refine j_icmp_ge G 108 dX6_figure_93 (by decide) (fun c5 => ?_) (fun c5 => ?_)
    · have h := h.1 c5
      refine j_iconst G (-1 : Int32) dX6_figure_108 (by decide) ?_
      exact j_reti G () rfl dX6_figure_109 h rfl
    · have h := h.2 c5
      refine j_aload_n G 0 0 dX6_figure_96 rfl rfl ?_
      have kk6 : kG K (a0 + 2) = (20, 32) := wk_8_2 hW ka0
      refine j_get G hW 7 1 5 (.ref (a0 + 2)) ka0 (by decide) rfl (by decide) rfl lay_X6 fl_X6_15 rfl rfl dX6_figure_97 ?_
      refine j_iload_n G 1 1 dX6_figure_100 rfl rfl ?_
      refine j_bipush G (20 : Int32) dX6_figure_101 (by decide) ?_
      refine j_isub G dX6_figure_103 ?_
      obtain ⟨b7, h⟩ := h
      refine j_iald G hW kk6 b7 dX6_figure_104 ?_
      refine j_goto G 109 dX6_figure_105 (by decide) ?_
      exact j_reti G () rfl dX6_figure_109 h rfl
def w_X6_figure (a0 : Nat) (x1 : Int32) (I : MI) (Q : Int32 →  Prop) : Prop :=
((x1 = (0 : Int32) → Q (I a0 3)) ∧
(x1 = (1 : Int32) → (((I a0 4) = 0 → Q (0 : Int32)) ∧
(¬ (I a0 4) = 0 → Q (1 : Int32)))) ∧
(x1 = (2 : Int32) → (((I a0 4) = 0 → Q (I a0 2)) ∧
(¬ (I a0 4) = 0 → Q (-1 : Int32)))) ∧
(¬ x1 = (0 : Int32) → ¬ x1 = (1 : Int32) → ¬ x1 = (2 : Int32) → ((x1 < (10 : Int32) → w_X6_figure_p84 a0 x1 I Q) ∧
(¬ x1 < (10 : Int32) → (((18 : Int32) ≤ x1 → w_X6_figure_p84 a0 x1 I Q) ∧
(¬ (18 : Int32) ≤ x1 → (vp_in (x1 - (10 : Int32)) 8 ∧
Q (I (a0 + 1) (ix (x1 - (10 : Int32)))))))))))
set_option maxHeartbeats 4000000 in
set_option maxRecDepth 100000 in
theorem c_X6_figure (K : Kx) (hW : WFK K) (l : Launch) (a0 : Nat) (x1 : Int32) (k0 : (kG K a0).1 = 8) (I : MI) (J : MJ) (B : MR) (Q : Int32 →  Prop) (h : w_X6_figure a0 x1 I Q) : Con K l yX6_figure (wsT yX6_figure cX6_figure 2 (some .int)) rm_X6_figure [.ref a0, .int x1] (I, J, B) (va_Qi (S := Unit) (fun r _ => Q r) (fun u t => HP K (I, J, B) t.heap) (AA K)) := by
  refine Con.ofJ RX6 rfl (by decide) (Nat.le_of_ble_eq_true rfl) (fun m H0 w G => ?_)
  unfold w_X6_figure at h
  show Jg K m 2 H0 w 0 [(0, .ref a0), (1, .int x1)] [] (I, J, B)
  refine j_iload_n G 1 1 dX6_figure_0 rfl rfl ?_
  by_cases c11 : x1 = (0 : Int32)
  · have h := h.1 (c11)
    refine j_tableIn G 28 dX6_figure_1 (by rw [c11]; decide) (by rw [c11]; decide) (by rw [c11] <;> rfl) (by decide) ?_
    refine j_aload_n G 0 0 dX6_figure_28 rfl rfl ?_
    refine j_get G hW 7 3 0 (.int (I a0 3)) k0 (by decide) rfl (by decide) rfl lay_X6 fl_X6_32 rfl rfl dX6_figure_29 ?_
    exact j_reti G () rfl dX6_figure_32 h rfl
  · skip
    by_cases c12 : x1 = (1 : Int32)
    · have h := h.2.1 (c12)
      refine j_tableIn G 33 dX6_figure_1 (by rw [c12]; decide) (by rw [c12]; decide) (by rw [c12] <;> rfl) (by decide) ?_
      refine j_aload_n G 0 0 dX6_figure_33 rfl rfl ?_
      refine j_get G hW 7 4 0 (.int (I a0 4)) k0 (by decide) rfl (by decide) rfl lay_X6 fl_X6_35 rfl rfl dX6_figure_34 ?_
      refine j_if_eq G 44 dX6_figure_37 (by decide) (fun c1 => ?_) (fun c1 => ?_)
      · have h := h.1 c1
        refine j_iconst G (0 : Int32) dX6_figure_44 (by decide) ?_
        exact j_reti G () rfl dX6_figure_45 h rfl
      · have h := h.2 c1
        refine j_iconst G (1 : Int32) dX6_figure_40 (by decide) ?_
        refine j_goto G 45 dX6_figure_41 (by decide) ?_
        exact j_reti G () rfl dX6_figure_45 h rfl
    · skip
      by_cases c13 : x1 = (2 : Int32)
      · have h := h.2.2.1 (c13)
        refine j_tableIn G 46 dX6_figure_1 (by rw [c13]; decide) (by rw [c13]; decide) (by rw [c13] <;> rfl) (by decide) ?_
        refine j_aload_n G 0 0 dX6_figure_46 rfl rfl ?_
        refine j_get G hW 7 4 0 (.int (I a0 4)) k0 (by decide) rfl (by decide) rfl lay_X6 fl_X6_35 rfl rfl dX6_figure_47 ?_
        refine j_if_eq G 57 dX6_figure_50 (by decide) (fun c2 => ?_) (fun c2 => ?_)
        · have h := h.1 c2
          refine j_aload_n G 0 0 dX6_figure_57 rfl rfl ?_
          refine j_get G hW 7 2 0 (.int (I a0 2)) k0 (by decide) rfl (by decide) rfl lay_X6 fl_X6_28 rfl rfl dX6_figure_58 ?_
          exact j_reti G () rfl dX6_figure_61 h rfl
        · have h := h.2 c2
          refine j_iconst G (-1 : Int32) dX6_figure_53 (by decide) ?_
          refine j_goto G 61 dX6_figure_54 (by decide) ?_
          exact j_reti G () rfl dX6_figure_61 h rfl
      · skip
        have h := h.2.2.2 c11 c12 c13
        have nc11 := sw_ne (n := 0) rfl c11
        have nc12 := sw_ne (n := 1) rfl c12
        have nc13 := sw_ne (n := 2) rfl c13
        refine j_tableOut G 62 dX6_figure_1 (by omega) (by decide) ?_
        refine j_iload_n G 1 1 dX6_figure_62 rfl rfl ?_
        refine j_bipush G (10 : Int32) dX6_figure_63 (by decide) ?_
        refine j_icmp_lt G 84 dX6_figure_65 (by decide) (fun c3 => ?_) (fun c3 => ?_)
        · have h := h.1 c3
          exact m_X6_figure_p84 G hW a0 x1 k0 h
        · have h := h.2 c3
          refine j_iload_n G 1 1 dX6_figure_68 rfl rfl ?_
          refine j_bipush G (18 : Int32) dX6_figure_69 (by decide) ?_
          refine j_icmp_ge G 84 dX6_figure_71 (by decide) (fun c8 => ?_) (fun c8 => ?_)
          · have h := h.1 c8
            exact m_X6_figure_p84 G hW a0 x1 k0 h
          · have h := h.2 c8
            refine j_aload_n G 0 0 dX6_figure_74 rfl rfl ?_
            have kk9 : kG K (a0 + 1) = (20, 8) := wk_8_1 hW k0
            refine j_get G hW 7 0 4 (.ref (a0 + 1)) k0 (by decide) rfl (by decide) rfl lay_X6 fl_X6_9 rfl rfl dX6_figure_75 ?_
            refine j_iload_n G 1 1 dX6_figure_78 rfl rfl ?_
            refine j_bipush G (10 : Int32) dX6_figure_79 (by decide) ?_
            refine j_isub G dX6_figure_81 ?_
            obtain ⟨b10, h⟩ := h
            refine j_iald G hW kk9 b10 dX6_figure_82 ?_
            exact j_reti G () rfl dX6_figure_83 h rfl
