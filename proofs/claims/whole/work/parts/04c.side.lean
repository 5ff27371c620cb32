abbrev rm_X5_toBeginning : Room := { frames := 1, cells := 0, slots := 0, locals := 23 }
def w_X5_toBeginning (a0 : Nat) (I : MI) (Q : MI → Prop) : Prop :=
(∀ I1, I1 = ui I a0 1 (0 : Int32) →
(∀ I2, I2 = ui I1 a0 2 (0 : Int32) →
(∀ I3, I3 = ui I2 a0 3 (0 : Int32) →
(∀ I4, I4 = ui I3 a0 4 (0 : Int32) →
(∀ I5, I5 = ui I4 a0 5 (0 : Int32) →
(∀ I6, I6 = ui I5 a0 6 (0 : Int32) →
(∀ I8, I8 = uf I6 (a0 + 1) 8 (0 : Int32) →
(∀ I10, I10 = uf I8 (a0 + 2) 50 (0 : Int32) →
Q I10))))))))
set_option maxHeartbeats 4000000 in
set_option maxRecDepth 100000 in
theorem c_X5_toBeginning (K : Kx) (hW : WFK K) (l : Launch) (a0 : Nat) (k0 : (kG K a0).1 = 7) (I : MI) (J : MJ) (B : MR) (Q : MI → Prop) (h : w_X5_toBeginning a0 I Q) : Con K l yX5_toBeginning (wsT yX5_toBeginning cX5_toBeginning 1 none) rm_X5_toBeginning [.ref a0] (I, J, B) (va_Qv (S := MI) Q (fun u t => HP K (u, J, B) t.heap) (AA K)) := by
  refine Con.ofJ RX5 rfl (by decide) (Nat.le_of_ble_eq_true rfl) (fun m H0 w G => ?_)
  unfold w_X5_toBeginning at h
  show Jg K m 1 H0 w 0 [(0, .ref a0)] [] (I, J, B)
  refine j_aload_n G 0 0 dX5_toBeginning_0 rfl rfl ?_
  refine j_iconst G (0 : Int32) dX5_toBeginning_1 (by decide) ?_
  refine j_put G hW 6 1 tyX5 (tyX5 1) tyX5_ok nmX5 k0 (by decide) rfl (by decide) rfl lay_X5 fl_X5_22 rfl rfl (tyX5_ok 1 (by decide)) rfl rfl dX5_toBeginning_2 ?_
  refine j_mI (fun I1 eI1 => ?_)
  have h := h I1 eI1
  refine j_aload_n G 0 0 dX5_toBeginning_5 rfl rfl ?_
  refine j_iconst G (0 : Int32) dX5_toBeginning_6 (by decide) ?_
  refine j_put G hW 6 2 tyX5 (tyX5 2) tyX5_ok nmX5 k0 (by decide) rfl (by decide) rfl lay_X5 fl_X5_25 rfl rfl (tyX5_ok 2 (by decide)) rfl rfl dX5_toBeginning_7 ?_
  refine j_mI (fun I2 eI2 => ?_)
  have h := h I2 eI2
  refine j_aload_n G 0 0 dX5_toBeginning_10 rfl rfl ?_
  refine j_iconst G (0 : Int32) dX5_toBeginning_11 (by decide) ?_
  refine j_put G hW 6 3 tyX5 (tyX5 3) tyX5_ok nmX5 k0 (by decide) rfl (by decide) rfl lay_X5 fl_X5_28 rfl rfl (tyX5_ok 3 (by decide)) rfl rfl dX5_toBeginning_12 ?_
  refine j_mI (fun I3 eI3 => ?_)
  have h := h I3 eI3
  refine j_aload_n G 0 0 dX5_toBeginning_15 rfl rfl ?_
  refine j_iconst G (0 : Int32) dX5_toBeginning_16 (by decide) ?_
  refine j_put G hW 6 4 tyX5 (tyX5 4) tyX5_ok nmX5 k0 (by decide) rfl (by decide) rfl lay_X5 fl_X5_31 rfl rfl (tyX5_ok 4 (by decide)) (by decide) (by decide) dX5_toBeginning_17 ?_
  refine j_mI (fun I4 eI4 => ?_)
  have h := h I4 eI4
  refine j_aload_n G 0 0 dX5_toBeginning_20 rfl rfl ?_
  refine j_iconst G (0 : Int32) dX5_toBeginning_21 (by decide) ?_
  refine j_put G hW 6 5 tyX5 (tyX5 5) tyX5_ok nmX5 k0 (by decide) rfl (by decide) rfl lay_X5 fl_X5_35 rfl rfl (tyX5_ok 5 (by decide)) rfl rfl dX5_toBeginning_22 ?_
  refine j_mI (fun I5 eI5 => ?_)
  have h := h I5 eI5
  refine j_aload_n G 0 0 dX5_toBeginning_25 rfl rfl ?_
  refine j_iconst G (0 : Int32) dX5_toBeginning_26 (by decide) ?_
  refine j_put G hW 6 6 tyX5 (tyX5 6) tyX5_ok nmX5 k0 (by decide) rfl (by decide) rfl lay_X5 fl_X5_38 rfl rfl (tyX5_ok 6 (by decide)) rfl rfl dX5_toBeginning_27 ?_
  refine j_mI (fun I6 eI6 => ?_)
  have h := h I6 eI6
  refine j_aload_n G 0 0 dX5_toBeginning_30 rfl rfl ?_
  have kk7 : kG K (a0 + 1) = (20, 8) := wk_7_1 hW k0
  refine j_get G hW 6 7 4 (.ref (a0 + 1)) k0 (by decide) rfl (by decide) rfl lay_X5 fl_X5_9 rfl rfl dX5_toBeginning_31 ?_
  refine j_iconst G (0 : Int32) dX5_toBeginning_34 (by decide) ?_
  refine j_fill G hW kk7 (by decide) ml_X5_41 st_J7_fill_53178 in_J7 co_J7_fill_53178 (by decide) (by decide) (Nat.le_of_ble_eq_true rfl) dX5_toBeginning_35 ?_
  refine j_mI (fun I8 eI8 => ?_)
  have h := h I8 eI8
  refine j_aload_n G 0 0 dX5_toBeginning_38 rfl rfl ?_
  have kk9 : kG K (a0 + 2) = (20, 50) := wk_7_2 hW k0
  refine j_get G hW 6 8 5 (.ref (a0 + 2)) k0 (by decide) rfl (by decide) rfl lay_X5 fl_X5_15 rfl rfl dX5_toBeginning_39 ?_
  refine j_iconst G (0 : Int32) dX5_toBeginning_42 (by decide) ?_
  refine j_fill G hW kk9 (by decide) ml_X5_41 st_J7_fill_53178 in_J7 co_J7_fill_53178 (by decide) (by decide) (Nat.le_of_ble_eq_true rfl) dX5_toBeginning_43 ?_
  refine j_mI (fun I10 eI10 => ?_)
  have h := h I10 eI10
  exact j_retv G I10 dX5_toBeginning_46 h rfl
abbrev rm_X5_copyFrom : Room := { frames := 1, cells := 0, slots := 0, locals := 48 }
def w_X5_copyFrom (a0 : Nat) (a1 : Nat) (I : MI) (Q : MI → Prop) : Prop :=
(∀ I1, I1 = ui I a0 1 (I a1 1) →
(∀ I2, I2 = ui I1 a0 2 (I1 a1 2) →
(∀ I3, I3 = ui I2 a0 3 (I2 a1 3) →
(bln (I3 a1 4) ∧
(∀ I5, I5 = ui I3 a0 4 (I3 a1 4) →
(∀ I6, I6 = ui I5 a0 5 (I5 a1 5) →
(∀ I7, I7 = ui I6 a0 6 (I6 a1 6) →
(∀ I10, I10 = uc I7 (a1 + 1) (a0 + 1) 8 →
(∀ I13, I13 = uc I10 (a1 + 2) (a0 + 2) 50 →
Q I13)))))))))
set_option maxHeartbeats 4000000 in
set_option maxRecDepth 100000 in
theorem c_X5_copyFrom (K : Kx) (hW : WFK K) (l : Launch) (a0 : Nat) (a1 : Nat) (k0 : (kG K a0).1 = 7) (k1 : (kG K a1).1 = 7) (I : MI) (J : MJ) (B : MR) (Q : MI → Prop) (h : w_X5_copyFrom a0 a1 I Q) : Con K l yX5_copyFrom (wsT yX5_copyFrom cX5_copyFrom 2 none) rm_X5_copyFrom [.ref a0, .ref a1] (I, J, B) (va_Qv (S := MI) Q (fun u t => HP K (u, J, B) t.heap) (AA K)) := by
  refine Con.ofJ RX5 rfl (by decide) (Nat.le_of_ble_eq_true rfl) (fun m H0 w G => ?_)
  unfold w_X5_copyFrom at h
  show Jg K m 2 H0 w 0 [(0, .ref a0), (1, .ref a1)] [] (I, J, B)
  refine j_aload_n G 0 0 dX5_copyFrom_0 rfl rfl ?_
  refine j_aload_n G 1 1 dX5_copyFrom_1 rfl rfl ?_
  refine j_get G hW 6 1 0 (.int (I a1 1)) k1 (by decide) rfl (by decide) rfl lay_X5 fl_X5_22 rfl rfl dX5_copyFrom_2 ?_
  refine j_put G hW 6 1 tyX5 (tyX5 1) tyX5_ok nmX5 k0 (by decide) rfl (by decide) rfl lay_X5 fl_X5_22 rfl rfl (tyX5_ok 1 (by decide)) rfl rfl dX5_copyFrom_5 ?_
  refine j_mI (fun I1 eI1 => ?_)
  have h := h I1 eI1
  refine j_aload_n G 0 0 dX5_copyFrom_8 rfl rfl ?_
  refine j_aload_n G 1 1 dX5_copyFrom_9 rfl rfl ?_
  refine j_get G hW 6 2 0 (.int (I1 a1 2)) k1 (by decide) rfl (by decide) rfl lay_X5 fl_X5_25 rfl rfl dX5_copyFrom_10 ?_
  refine j_put G hW 6 2 tyX5 (tyX5 2) tyX5_ok nmX5 k0 (by decide) rfl (by decide) rfl lay_X5 fl_X5_25 rfl rfl (tyX5_ok 2 (by decide)) rfl rfl dX5_copyFrom_13 ?_
  refine j_mI (fun I2 eI2 => ?_)
  have h := h I2 eI2
  refine j_aload_n G 0 0 dX5_copyFrom_16 rfl rfl ?_
  refine j_aload_n G 1 1 dX5_copyFrom_17 rfl rfl ?_
  refine j_get G hW 6 3 0 (.int (I2 a1 3)) k1 (by decide) rfl (by decide) rfl lay_X5 fl_X5_28 rfl rfl dX5_copyFrom_18 ?_
  refine j_put G hW 6 3 tyX5 (tyX5 3) tyX5_ok nmX5 k0 (by decide) rfl (by decide) rfl lay_X5 fl_X5_28 rfl rfl (tyX5_ok 3 (by decide)) rfl rfl dX5_copyFrom_21 ?_
  refine j_mI (fun I3 eI3 => ?_)
  have h := h I3 eI3
  refine j_aload_n G 0 0 dX5_copyFrom_24 rfl rfl ?_
  refine j_aload_n G 1 1 dX5_copyFrom_25 rfl rfl ?_
  refine j_get G hW 6 4 0 (.int (I3 a1 4)) k1 (by decide) rfl (by decide) rfl lay_X5 fl_X5_31 rfl rfl dX5_copyFrom_26 ?_
  obtain ⟨q4, h⟩ := h
  refine j_put G hW 6 4 tyX5 (tyX5 4) tyX5_ok nmX5 k0 (by decide) rfl (by decide) rfl lay_X5 fl_X5_31 rfl rfl (tyX5_ok 4 (by decide)) (bln_n q4) (bln_f q4) dX5_copyFrom_29 ?_
  refine j_mI (fun I5 eI5 => ?_)
  have h := h I5 eI5
  refine j_aload_n G 0 0 dX5_copyFrom_32 rfl rfl ?_
  refine j_aload_n G 1 1 dX5_copyFrom_33 rfl rfl ?_
  refine j_get G hW 6 5 0 (.int (I5 a1 5)) k1 (by decide) rfl (by decide) rfl lay_X5 fl_X5_35 rfl rfl dX5_copyFrom_34 ?_
  refine j_put G hW 6 5 tyX5 (tyX5 5) tyX5_ok nmX5 k0 (by decide) rfl (by decide) rfl lay_X5 fl_X5_35 rfl rfl (tyX5_ok 5 (by decide)) rfl rfl dX5_copyFrom_37 ?_
  refine j_mI (fun I6 eI6 => ?_)
  have h := h I6 eI6
  refine j_aload_n G 0 0 dX5_copyFrom_40 rfl rfl ?_
  refine j_aload_n G 1 1 dX5_copyFrom_41 rfl rfl ?_
  refine j_get G hW 6 6 0 (.int (I6 a1 6)) k1 (by decide) rfl (by decide) rfl lay_X5 fl_X5_38 rfl rfl dX5_copyFrom_42 ?_
  refine j_put G hW 6 6 tyX5 (tyX5 6) tyX5_ok nmX5 k0 (by decide) rfl (by decide) rfl lay_X5 fl_X5_38 rfl rfl (tyX5_ok 6 (by decide)) rfl rfl dX5_copyFrom_45 ?_
  refine j_mI (fun I7 eI7 => ?_)
  have h := h I7 eI7
  refine j_aload_n G 1 1 dX5_copyFrom_48 rfl rfl ?_
  have kk8 : kG K (a1 + 1) = (20, 8) := wk_7_1 hW k1
  refine j_get G hW 6 7 4 (.ref (a1 + 1)) k1 (by decide) rfl (by decide) rfl lay_X5 fl_X5_9 rfl rfl dX5_copyFrom_49 ?_
  refine j_iconst G (0 : Int32) dX5_copyFrom_52 (by decide) ?_
  refine j_aload_n G 0 0 dX5_copyFrom_53 rfl rfl ?_
  have kk9 : kG K (a0 + 1) = (20, 8) := wk_7_1 hW k0
  refine j_get G hW 6 7 4 (.ref (a0 + 1)) k0 (by decide) rfl (by decide) rfl lay_X5 fl_X5_9 rfl rfl dX5_copyFrom_54 ?_
  refine j_iconst G (0 : Int32) dX5_copyFrom_57 (by decide) ?_
  refine j_aload_n G 0 0 dX5_copyFrom_58 rfl rfl ?_
  refine j_get G hW 6 7 4 (.ref (a0 + 1)) k0 (by decide) rfl (by decide) rfl lay_X5 fl_X5_9 rfl rfl dX5_copyFrom_59 ?_
  refine j_alen G hW (8 : Int32) kk9 (by decide) (by decide) (by decide) rfl (by decide) dX5_copyFrom_62 ?_
  refine j_copyi G hW 8 kk8 kk9 (by decide) (by decide) (by decide) (by decide) ml_X5_47 nat_copy st_copy in_J10 (by decide) (by decide) (Nat.le_of_ble_eq_true rfl) dX5_copyFrom_63 ?_
  refine j_mI (fun I10 eI10 => ?_)
  have h := h I10 eI10
  refine j_aload_n G 1 1 dX5_copyFrom_66 rfl rfl ?_
  have kk11 : kG K (a1 + 2) = (20, 50) := wk_7_2 hW k1
  refine j_get G hW 6 8 5 (.ref (a1 + 2)) k1 (by decide) rfl (by decide) rfl lay_X5 fl_X5_15 rfl rfl dX5_copyFrom_67 ?_
  refine j_iconst G (0 : Int32) dX5_copyFrom_70 (by decide) ?_
  refine j_aload_n G 0 0 dX5_copyFrom_71 rfl rfl ?_
  have kk12 : kG K (a0 + 2) = (20, 50) := wk_7_2 hW k0
  refine j_get G hW 6 8 5 (.ref (a0 + 2)) k0 (by decide) rfl (by decide) rfl lay_X5 fl_X5_15 rfl rfl dX5_copyFrom_72 ?_
  refine j_iconst G (0 : Int32) dX5_copyFrom_75 (by decide) ?_
  refine j_aload_n G 0 0 dX5_copyFrom_76 rfl rfl ?_
  refine j_get G hW 6 8 5 (.ref (a0 + 2)) k0 (by decide) rfl (by decide) rfl lay_X5 fl_X5_15 rfl rfl dX5_copyFrom_77 ?_
  refine j_alen G hW (50 : Int32) kk12 (by decide) (by decide) (by decide) rfl (by decide) dX5_copyFrom_80 ?_
  refine j_copyi G hW 50 kk11 kk12 (by decide) (by decide) (by decide) (by decide) ml_X5_47 nat_copy st_copy in_J10 (by decide) (by decide) (Nat.le_of_ble_eq_true rfl) dX5_copyFrom_81 ?_
  refine j_mI (fun I13 eI13 => ?_)
  have h := h I13 eI13
  exact j_retv G I13 dX5_copyFrom_84 h rfl
abbrev rm_X2_deedsAt : Room := { frames := 1, cells := 0, slots := 0, locals := 20 }
def w_X2_deedsAt (a0 : Nat) (x1 : Int32) (x2 : Int32) (I : MI) (Q : Int32 →  Prop) : Prop :=
(w_X9_isSide x1 (fun r1 =>
((r1 = 0 → Q (-1 : Int32)) ∧
(¬ r1 = 0 → ((x2 < 0 → Q (-1 : Int32)) ∧
(¬ x2 < 0 → (((I a0 1) < x2 → Q (-1 : Int32)) ∧
(¬ (I a0 1) < x2 → (vp_in ((x1 * (25 : Int32)) + x2) 50 ∧
Q (I (a0 + 7) (ix ((x1 * (25 : Int32)) + x2))))))))))))
set_option maxHeartbeats 4000000 in
set_option maxRecDepth 100000 in
theorem c_X2_deedsAt (K : Kx) (hW : WFK K) (l : Launch) (a0 : Nat) (x1 : Int32) (x2 : Int32) (k0 : (kG K a0).1 = 4) (I : MI) (J : MJ) (B : MR) (Q : Int32 →  Prop) (h : w_X2_deedsAt a0 x1 x2 I Q) : Con K l yX2_deedsAt (wsT yX2_deedsAt cX2_deedsAt 3 (some .int)) rm_X2_deedsAt [.ref a0, .int x1, .int x2] (I, J, B) (va_Qi (S := Unit) (fun r _ => Q r) (fun u t => HP K (I, J, B) t.heap) (AA K)) := by
  refine Con.ofJ RX2 rfl (by decide) (Nat.le_of_ble_eq_true rfl) (fun m H0 w G => ?_)
  unfold w_X2_deedsAt at h
  show Jg K m 3 H0 w 0 [(0, .ref a0), (1, .int x1), (2, .int x2)] [] (I, J, B)
  refine j_iload_n G 1 1 dX2_deedsAt_0 rfl rfl ?_
  refine j_ci (rn_N G (n := 1) (As := [.int x1]) (rest := []) (c_X9_isSide K hW l x1 I J B _ h) (List.mem_of_getElem? (i := 6) rfl) st_X9_isSide in_X9 co_X9_isSide (by decide +kernel) rfl rfl (by decide) (by decide) rfl rfl (Nat.le_of_ble_eq_true rfl) dX2_deedsAt_1) (fun r1 _ h => ?_)
  refine j_if_eq G 33 dX2_deedsAt_4 (by decide) (fun c2 => ?_) (fun c2 => ?_)
  · have h := h.1 c2
    refine j_iconst G (-1 : Int32) dX2_deedsAt_33 (by decide) ?_
    exact j_reti G () rfl dX2_deedsAt_34 h rfl
  · have h := h.2 c2
    refine j_iload_n G 2 2 dX2_deedsAt_7 rfl rfl ?_
    refine j_if_lt G 33 dX2_deedsAt_8 (by decide) (fun c3 => ?_) (fun c3 => ?_)
    · have h := h.1 c3
      refine j_iconst G (-1 : Int32) dX2_deedsAt_33 (by decide) ?_
      exact j_reti G () rfl dX2_deedsAt_34 h rfl
    · have h := h.2 c3
      refine j_iload_n G 2 2 dX2_deedsAt_11 rfl rfl ?_
      refine j_aload_n G 0 0 dX2_deedsAt_12 rfl rfl ?_
      refine j_get G hW 3 1 0 (.int (I a0 1)) k0 (by decide) rfl (by decide) rfl lay_X2 fl_X2_43 rfl rfl dX2_deedsAt_13 ?_
      refine j_icmp_gt G 33 dX2_deedsAt_16 (by decide) (fun c4 => ?_) (fun c4 => ?_)
      · have h := h.1 c4
        refine j_iconst G (-1 : Int32) dX2_deedsAt_33 (by decide) ?_
        exact j_reti G () rfl dX2_deedsAt_34 h rfl
      · have h := h.2 c4
        refine j_aload_n G 0 0 dX2_deedsAt_19 rfl rfl ?_
        have kk5 : kG K (a0 + 7) = (20, 50) := wk_4_7 hW k0
        refine j_get G hW 3 10 10 (.ref (a0 + 7)) k0 (by decide) rfl (by decide) rfl lay_X2 fl_X2_33 rfl rfl dX2_deedsAt_20 ?_
        refine j_iload_n G 1 1 dX2_deedsAt_23 rfl rfl ?_
        refine j_bipush G (25 : Int32) dX2_deedsAt_24 (by decide) ?_
        refine j_imul G dX2_deedsAt_26 ?_
        refine j_iload_n G 2 2 dX2_deedsAt_27 rfl rfl ?_
        refine j_iadd G dX2_deedsAt_28 ?_
        obtain ⟨b6, h⟩ := h
        refine j_iald G hW kk5 b6 dX2_deedsAt_29 ?_
        refine j_goto G 34 dX2_deedsAt_30 (by decide) ?_
        exact j_reti G () rfl dX2_deedsAt_34 h rfl
abbrev rm_X5_passWithoutDeeds : Room := { frames := 2, cells := 0, slots := 0, locals := 42 }
def w_X5_passWithoutDeeds_l0 (a0 : Nat) (a1 : Nat)   (Q : MI → Prop) (rec : MI → Prop) (I : MI) : Prop :=
(((I a1 1) ≤ (I a0 1) → Q I) ∧
(¬ (I a1 1) ≤ (I a0 1) → (w_X2_deedsAt a1 (I a0 0) (I a0 1) I (fun r2 =>
((¬ r2 = 0 → Q I) ∧
(r2 = 0 → (∀ I4, I4 = ui I a0 1 ((I a0 1) + (1 : Int32)) →
(∀ I5, I5 = ui I4 a0 3 ((I4 a0 3) + (1 : Int32)) →
rec I5))))))))
set_option maxHeartbeats 4000000 in
set_option maxRecDepth 100000 in
theorem m_X5_passWithoutDeeds_l0 {K : Kx} {l : Launch} {m : MethodId} {H0 : Heap} {Q : MI → Prop} {w : HW} {J : MJ} {B : MR} (G : Gd l rm_X5_passWithoutDeeds K m RX5 cX5_passWithoutDeeds 2 H0 none (va_Qv (S := MI) Q (fun u t => HP K (u, J, B) t.heap) (AA K)) w) (hW : WFK K) (a0 : Nat) (a1 : Nat) (ka0 : (kG K a0).1 = 7) (ka1 : (kG K a1).1 = 4) (I : MI)   (h : Lp1 (w_X5_passWithoutDeeds_l0 a0 a1 Q) I) : Jg K m 2 H0 w 0 [(0, .ref a0), (1, .ref a1)] [] (I, J, B) := by
  obtain ⟨n, h⟩ := h
  refine lpN1_ind (P := (fun (I : MI) => Jg K m 2 H0 w 0 [(0, .ref a0), (1, .ref a1)] [] (I, J, B))) (fun rec hrec I h => ?_) n I h
  unfold w_X5_passWithoutDeeds_l0 at h
  refine j_aload_n G 0 0 dX5_passWithoutDeeds_0 rfl rfl ?_
  refine j_get G hW 6 1 0 (.int (I a0 1)) ka0 (by decide) rfl (by decide) rfl lay_X5 fl_X5_22 rfl rfl dX5_passWithoutDeeds_1 ?_
  refine j_aload_n G 1 1 dX5_passWithoutDeeds_4 rfl rfl ?_
  refine j_get G hW 3 1 0 (.int (I a1 1)) ka1 (by decide) rfl (by decide) rfl lay_X2 fl_X5_53 rfl rfl dX5_passWithoutDeeds_5 ?_
  refine j_icmp_ge G 49 dX5_passWithoutDeeds_8 (by decide) (fun c1 => ?_) (fun c1 => ?_)
  · have h := h.1 c1
    exact j_retv G I dX5_passWithoutDeeds_49 h rfl
  · have h := h.2 c1
    refine j_aload_n G 1 1 dX5_passWithoutDeeds_11 rfl rfl ?_
    refine j_aload_n G 0 0 dX5_passWithoutDeeds_12 rfl rfl ?_
    refine j_get G hW 6 0 0 (.int (I a0 0)) ka0 (by decide) rfl (by decide) rfl lay_X5 fl_X5_18 rfl rfl dX5_passWithoutDeeds_13 ?_
    refine j_aload_n G 0 0 dX5_passWithoutDeeds_16 rfl rfl ?_
    refine j_get G hW 6 1 0 (.int (I a0 1)) ka0 (by decide) rfl (by decide) rfl lay_X5 fl_X5_22 rfl rfl dX5_passWithoutDeeds_17 ?_
    refine j_ci (rn_V G hW (ci := 3) (n := 2) (As := [.int (I a0 0), .int (I a0 1)]) (rest := []) (c_X2_deedsAt K hW l a1 (I a0 0) (I a0 1) ka1 I J B _ h) ka1 (by decide) rfl ml_X5_58 im_X2_deedsAt se_X2_deedsAt in_X2 co_X2_deedsAt rfl (by decide +kernel) rfl rfl (by decide) (by decide) rfl rfl (Nat.le_of_ble_eq_true rfl) dX5_passWithoutDeeds_20) (fun r2 _ h => ?_)
    refine j_if_ne G 49 dX5_passWithoutDeeds_23 (by decide) (fun c3 => ?_) (fun c3 => ?_)
    · have h := h.1 c3
      exact j_retv G I dX5_passWithoutDeeds_49 h rfl
    · have h := h.2 c3
      refine j_aload_n G 0 0 dX5_passWithoutDeeds_26 rfl rfl ?_
      refine j_dup G rfl dX5_passWithoutDeeds_27 ?_
      refine j_get G hW 6 1 0 (.int (I a0 1)) ka0 (by decide) rfl (by decide) rfl lay_X5 fl_X5_22 rfl rfl dX5_passWithoutDeeds_28 ?_
      refine j_iconst G (1 : Int32) dX5_passWithoutDeeds_31 (by decide) ?_
      refine j_iadd G dX5_passWithoutDeeds_32 ?_
      refine j_put G hW 6 1 tyX5 (tyX5 1) tyX5_ok nmX5 ka0 (by decide) rfl (by decide) rfl lay_X5 fl_X5_22 rfl rfl (tyX5_ok 1 (by decide)) rfl rfl dX5_passWithoutDeeds_33 ?_
      refine j_mI (fun I4 eI4 => ?_)
      have h := h I4 eI4
      refine j_aload_n G 0 0 dX5_passWithoutDeeds_36 rfl rfl ?_
      refine j_dup G rfl dX5_passWithoutDeeds_37 ?_
      refine j_get G hW 6 3 0 (.int (I4 a0 3)) ka0 (by decide) rfl (by decide) rfl lay_X5 fl_X5_28 rfl rfl dX5_passWithoutDeeds_38 ?_
      refine j_iconst G (1 : Int32) dX5_passWithoutDeeds_41 (by decide) ?_
      refine j_iadd G dX5_passWithoutDeeds_42 ?_
      refine j_put G hW 6 3 tyX5 (tyX5 3) tyX5_ok nmX5 ka0 (by decide) rfl (by decide) rfl lay_X5 fl_X5_28 rfl rfl (tyX5_ok 3 (by decide)) rfl rfl dX5_passWithoutDeeds_43 ?_
      refine j_mI (fun I5 eI5 => ?_)
      have h := h I5 eI5
      refine j_goto G 0 dX5_passWithoutDeeds_46 (by decide) ?_
      exact hrec I5 h
def w_X5_passWithoutDeeds (a0 : Nat) (a1 : Nat) (I : MI) (Q : MI → Prop) : Prop :=
Lp1 (w_X5_passWithoutDeeds_l0 a0 a1 Q) I
set_option maxHeartbeats 4000000 in
set_option maxRecDepth 100000 in
theorem c_X5_passWithoutDeeds (K : Kx) (hW : WFK K) (l : Launch) (a0 : Nat) (a1 : Nat) (k0 : (kG K a0).1 = 7) (k1 : (kG K a1).1 = 4) (I : MI) (J : MJ) (B : MR) (Q : MI → Prop) (h : w_X5_passWithoutDeeds a0 a1 I Q) : Con K l yX5_passWithoutDeeds (wsT yX5_passWithoutDeeds cX5_passWithoutDeeds 2 none) rm_X5_passWithoutDeeds [.ref a0, .ref a1] (I, J, B) (va_Qv (S := MI) Q (fun u t => HP K (u, J, B) t.heap) (AA K)) := by
  refine Con.ofJ RX5 rfl (by decide) (Nat.le_of_ble_eq_true rfl) (fun m H0 w G => ?_)
  unfold w_X5_passWithoutDeeds at h
  show Jg K m 2 H0 w 0 [(0, .ref a0), (1, .ref a1)] [] (I, J, B)
  refine Jg.sub [0, 1] rfl (m_X5_passWithoutDeeds_l0 G hW a0 a1 k0 k1 I h)
abbrev rm_X2_kindOf : Room := { frames := 1, cells := 0, slots := 0, locals := 22 }
def w_X2_kindOf (a0 : Nat) (x1 : Int32) (x2 : Int32) (x3 : Int32) (I : MI) (Q : Int32 →  Prop) : Prop :=
(w_X9_deedPlace x1 x2 x3 (fun r2 =>
(vp_in r2 100 ∧
Q (I (a0 + 5) (ix r2)))))
set_option maxHeartbeats 4000000 in
set_option maxRecDepth 100000 in
theorem c_X2_kindOf (K : Kx) (hW : WFK K) (l : Launch) (a0 : Nat) (x1 : Int32) (x2 : Int32) (x3 : Int32) (k0 : (kG K a0).1 = 4) (I : MI) (J : MJ) (B : MR) (Q : Int32 →  Prop) (h : w_X2_kindOf a0 x1 x2 x3 I Q) : Con K l yX2_kindOf (wsT yX2_kindOf cX2_kindOf 4 (some .int)) rm_X2_kindOf [.ref a0, .int x1, .int x2, .int x3] (I, J, B) (va_Qi (S := Unit) (fun r _ => Q r) (fun u t => HP K (I, J, B) t.heap) (AA K)) := by
  refine Con.ofJ RX2 rfl (by decide) (Nat.le_of_ble_eq_true rfl) (fun m H0 w G => ?_)
  unfold w_X2_kindOf at h
  show Jg K m 4 H0 w 0 [(0, .ref a0), (1, .int x1), (2, .int x2), (3, .int x3)] [] (I, J, B)
  refine j_aload_n G 0 0 dX2_kindOf_0 rfl rfl ?_
  have kk1 : kG K (a0 + 5) = (20, 100) := wk_4_5 hW k0
  refine j_get G hW 3 8 8 (.ref (a0 + 5)) k0 (by decide) rfl (by decide) rfl lay_X2 fl_X2_27 rfl rfl dX2_kindOf_1 ?_
  refine j_iload_n G 1 1 dX2_kindOf_4 rfl rfl ?_
  refine j_iload_n G 2 2 dX2_kindOf_5 rfl rfl ?_
  refine j_iload_n G 3 3 dX2_kindOf_6 rfl rfl ?_
  refine j_ci (rn_N G (n := 3) (As := [.int x1, .int x2, .int x3]) (rest := [.ref (a0 + 5)]) (c_X9_deedPlace K hW l x1 x2 x3 I J B _ h) (List.mem_of_getElem? (i := 3) rfl) st_X9_deedPlace in_X9 co_X9_deedPlace (by decide +kernel) rfl rfl (by decide) (by decide) rfl rfl (Nat.le_of_ble_eq_true rfl) dX2_kindOf_7) (fun r2 _ h => ?_)
  obtain ⟨b3, h⟩ := h
  refine j_iald G hW kk1 b3 dX2_kindOf_10 ?_
  exact j_reti G () rfl dX2_kindOf_11 h rfl
abbrev rm_X5_kindOfNext : Room := { frames := 2, cells := 0, slots := 0, locals := 45 }
def w_X5_kindOfNext (a0 : Nat) (a1 : Nat) (I : MI) (Q : Int32 →  Prop) : Prop :=
(w_X2_kindOf a1 (I a0 0) (I a0 1) (I a0 2) I (fun r1 =>
Q r1))
set_option maxHeartbeats 4000000 in
set_option maxRecDepth 100000 in
theorem c_X5_kindOfNext (K : Kx) (hW : WFK K) (l : Launch) (a0 : Nat) (a1 : Nat) (k0 : (kG K a0).1 = 7) (k1 : (kG K a1).1 = 4) (I : MI) (J : MJ) (B : MR) (Q : Int32 →  Prop) (h : w_X5_kindOfNext a0 a1 I Q) : Con K l yX5_kindOfNext (wsT yX5_kindOfNext cX5_kindOfNext 2 (some .int)) rm_X5_kindOfNext [.ref a0, .ref a1] (I, J, B) (va_Qi (S := Unit) (fun r _ => Q r) (fun u t => HP K (I, J, B) t.heap) (AA K)) := by
  refine Con.ofJ RX5 rfl (by decide) (Nat.le_of_ble_eq_true rfl) (fun m H0 w G => ?_)
  unfold w_X5_kindOfNext at h
  show Jg K m 2 H0 w 0 [(0, .ref a0), (1, .ref a1)] [] (I, J, B)
  refine j_aload_n G 1 1 dX5_kindOfNext_0 rfl rfl ?_
  refine j_aload_n G 0 0 dX5_kindOfNext_1 rfl rfl ?_
  refine j_get G hW 6 0 0 (.int (I a0 0)) k0 (by decide) rfl (by decide) rfl lay_X5 fl_X5_18 rfl rfl dX5_kindOfNext_2 ?_
  refine j_aload_n G 0 0 dX5_kindOfNext_5 rfl rfl ?_
  refine j_get G hW 6 1 0 (.int (I a0 1)) k0 (by decide) rfl (by decide) rfl lay_X5 fl_X5_22 rfl rfl dX5_kindOfNext_6 ?_
  refine j_aload_n G 0 0 dX5_kindOfNext_9 rfl rfl ?_
  refine j_get G hW 6 2 0 (.int (I a0 2)) k0 (by decide) rfl (by decide) rfl lay_X5 fl_X5_25 rfl rfl dX5_kindOfNext_10 ?_
  refine j_ci (rn_V G hW (ci := 3) (n := 3) (As := [.int (I a0 0), .int (I a0 1), .int (I a0 2)]) (rest := []) (c_X2_kindOf K hW l a1 (I a0 0) (I a0 1) (I a0 2) k1 I J B _ h) k1 (by decide) rfl ml_X5_62 im_X2_kindOf se_X2_kindOf in_X2 co_X2_kindOf rfl (by decide +kernel) rfl rfl (by decide) (by decide) rfl rfl (Nat.le_of_ble_eq_true rfl) dX5_kindOfNext_13) (fun r1 _ h => ?_)
  exact j_reti G () rfl dX5_kindOfNext_16 h rfl
abbrev rm_X5_setReason : Room := { frames := 0, cells := 0, slots := 0, locals := 0 }
def w_X5_setReason (a0 : Nat) (x1 : Int32) (I : MI) (Q : MI → Prop) : Prop :=
(∀ I1, I1 = ui I a0 6 x1 →
((x1 ≤ 0 → Q I1) ∧
(¬ x1 ≤ 0 → (((7 : Int32) < x1 → Q I1) ∧
(¬ (7 : Int32) < x1 → (vp_in x1 8 ∧
(vp_in x1 8 ∧
(∀ I7, I7 = ui I1 (a0 + 1) (ix x1) ((I1 (a0 + 1) (ix x1)) + (1 : Int32)) →
Q I7))))))))
set_option maxHeartbeats 4000000 in
set_option maxRecDepth 100000 in
theorem c_X5_setReason (K : Kx) (hW : WFK K) (l : Launch) (a0 : Nat) (x1 : Int32) (k0 : (kG K a0).1 = 7) (I : MI) (J : MJ) (B : MR) (Q : MI → Prop) (h : w_X5_setReason a0 x1 I Q) : Con K l yX5_setReason (wsT yX5_setReason cX5_setReason 2 none) rm_X5_setReason [.ref a0, .int x1] (I, J, B) (va_Qv (S := MI) Q (fun u t => HP K (u, J, B) t.heap) (AA K)) := by
  refine Con.ofJ RX5 rfl (by decide) (Nat.le_of_ble_eq_true rfl) (fun m H0 w G => ?_)
  unfold w_X5_setReason at h
  show Jg K m 2 H0 w 0 [(0, .ref a0), (1, .int x1)] [] (I, J, B)
  refine j_aload_n G 0 0 dX5_setReason_0 rfl rfl ?_
  refine j_iload_n G 1 1 dX5_setReason_1 rfl rfl ?_
  refine j_put G hW 6 6 tyX5 (tyX5 6) tyX5_ok nmX5 k0 (by decide) rfl (by decide) rfl lay_X5 fl_X5_38 rfl rfl (tyX5_ok 6 (by decide)) rfl rfl dX5_setReason_2 ?_
  refine j_mI (fun I1 eI1 => ?_)
  have h := h I1 eI1
  refine j_iload_n G 1 1 dX5_setReason_5 rfl rfl ?_
  refine j_if_le G 25 dX5_setReason_6 (by decide) (fun c2 => ?_) (fun c2 => ?_)
  · have h := h.1 c2
    exact j_retv G I1 dX5_setReason_25 h rfl
  · have h := h.2 c2
    refine j_iload_n G 1 1 dX5_setReason_9 rfl rfl ?_
    refine j_bipush G (7 : Int32) dX5_setReason_10 (by decide) ?_
    refine j_icmp_gt G 25 dX5_setReason_12 (by decide) (fun c3 => ?_) (fun c3 => ?_)
    · have h := h.1 c3
      exact j_retv G I1 dX5_setReason_25 h rfl
    · have h := h.2 c3
      refine j_aload_n G 0 0 dX5_setReason_15 rfl rfl ?_
      have kk4 : kG K (a0 + 1) = (20, 8) := wk_7_1 hW k0
      refine j_get G hW 6 7 4 (.ref (a0 + 1)) k0 (by decide) rfl (by decide) rfl lay_X5 fl_X5_9 rfl rfl dX5_setReason_16 ?_
      refine j_iload_n G 1 1 dX5_setReason_19 rfl rfl ?_
      refine j_dup2 G rfl rfl dX5_setReason_20 ?_
      obtain ⟨b5, h⟩ := h
      refine j_iald G hW kk4 b5 dX5_setReason_21 ?_
      refine j_iconst G (1 : Int32) dX5_setReason_22 (by decide) ?_
      refine j_iadd G dX5_setReason_23 ?_
      obtain ⟨b6, h⟩ := h
      refine j_iast G hW kk4 b6 dX5_setReason_24 ?_
      refine j_mI (fun I7 eI7 => ?_)
      have h := h I7 eI7
      exact j_retv G I7 dX5_setReason_25 h rfl
abbrev rm_X5_finishDeed : Room := { frames := 2, cells := 0, slots := 0, locals := 42 }
def w_X5_finishDeed (a0 : Nat) (a1 : Nat) (x2 : Int32) (I : MI) (Q : MI → Prop) : Prop :=
(vp_in (((I a0 1) * (2 : Int32)) + (I a0 2)) 50 ∧
(vp_in (((I a0 1) * (2 : Int32)) + (I a0 2)) 50 ∧
(∀ I4, I4 = ui I (a0 + 2) (ix (((I a0 1) * (2 : Int32)) + (I a0 2))) ((I (a0 + 2) (ix (((I a0 1) * (2 : Int32)) + (I a0 2)))) + (1 : Int32)) →
(∀ I5, I5 = ui I4 a0 5 ((I4 a0 5) + (1 : Int32)) →
(∀ I6, I6 = ui I5 a0 2 ((I5 a0 2) + (1 : Int32)) →
(w_X2_deedsAt a1 (I6 a0 0) (I6 a0 1) I6 (fun r7 =>
(((I6 a0 2) < r7 → Q I6) ∧
(¬ (I6 a0 2) < r7 → (∀ I9, I9 = ui I6 a0 2 (0 : Int32) →
(∀ I10, I10 = ui I9 a0 3 ((I9 a0 3) + (1 : Int32)) →
(∀ I11, I11 = ui I10 a0 1 x2 →
Q I11))))))))))))
set_option maxHeartbeats 4000000 in
set_option maxRecDepth 100000 in
theorem c_X5_finishDeed (K : Kx) (hW : WFK K) (l : Launch) (a0 : Nat) (a1 : Nat) (x2 : Int32) (k0 : (kG K a0).1 = 7) (k1 : (kG K a1).1 = 4) (I : MI) (J : MJ) (B : MR) (Q : MI → Prop) (h : w_X5_finishDeed a0 a1 x2 I Q) : Con K l yX5_finishDeed (wsT yX5_finishDeed cX5_finishDeed 3 none) rm_X5_finishDeed [.ref a0, .ref a1, .int x2] (I, J, B) (va_Qv (S := MI) Q (fun u t => HP K (u, J, B) t.heap) (AA K)) := by
  refine Con.ofJ RX5 rfl (by decide) (Nat.le_of_ble_eq_true rfl) (fun m H0 w G => ?_)
  unfold w_X5_finishDeed at h
  show Jg K m 3 H0 w 0 [(0, .ref a0), (1, .ref a1), (2, .int x2)] [] (I, J, B)
  refine j_aload_n G 0 0 dX5_finishDeed_0 rfl rfl ?_
  have kk1 : kG K (a0 + 2) = (20, 50) := wk_7_2 hW k0
  refine j_get G hW 6 8 5 (.ref (a0 + 2)) k0 (by decide) rfl (by decide) rfl lay_X5 fl_X5_15 rfl rfl dX5_finishDeed_1 ?_
  refine j_aload_n G 0 0 dX5_finishDeed_4 rfl rfl ?_
  refine j_get G hW 6 1 0 (.int (I a0 1)) k0 (by decide) rfl (by decide) rfl lay_X5 fl_X5_22 rfl rfl dX5_finishDeed_5 ?_
  refine j_iconst G (2 : Int32) dX5_finishDeed_8 (by decide) ?_
  refine j_imul G dX5_finishDeed_9 ?_
  refine j_aload_n G 0 0 dX5_finishDeed_10 rfl rfl ?_
  refine j_get G hW 6 2 0 (.int (I a0 2)) k0 (by decide) rfl (by decide) rfl lay_X5 fl_X5_25 rfl rfl dX5_finishDeed_11 ?_
  refine j_iadd G dX5_finishDeed_14 ?_
  refine j_dup2 G rfl rfl dX5_finishDeed_15 ?_
  obtain ⟨b2, h⟩ := h
  refine j_iald G hW kk1 b2 dX5_finishDeed_16 ?_
  refine j_iconst G (1 : Int32) dX5_finishDeed_17 (by decide) ?_
  refine j_iadd G dX5_finishDeed_18 ?_
  obtain ⟨b3, h⟩ := h
  refine j_iast G hW kk1 b3 dX5_finishDeed_19 ?_
  refine j_mI (fun I4 eI4 => ?_)
  have h := h I4 eI4
  refine j_aload_n G 0 0 dX5_finishDeed_20 rfl rfl ?_
  refine j_dup G rfl dX5_finishDeed_21 ?_
  refine j_get G hW 6 5 0 (.int (I4 a0 5)) k0 (by decide) rfl (by decide) rfl lay_X5 fl_X5_35 rfl rfl dX5_finishDeed_22 ?_
  refine j_iconst G (1 : Int32) dX5_finishDeed_25 (by decide) ?_
  refine j_iadd G dX5_finishDeed_26 ?_
  refine j_put G hW 6 5 tyX5 (tyX5 5) tyX5_ok nmX5 k0 (by decide) rfl (by decide) rfl lay_X5 fl_X5_35 rfl rfl (tyX5_ok 5 (by decide)) rfl rfl dX5_finishDeed_27 ?_
  refine j_mI (fun I5 eI5 => ?_)
  have h := h I5 eI5
  refine j_aload_n G 0 0 dX5_finishDeed_30 rfl rfl ?_
  refine j_dup G rfl dX5_finishDeed_31 ?_
  refine j_get G hW 6 2 0 (.int (I5 a0 2)) k0 (by decide) rfl (by decide) rfl lay_X5 fl_X5_25 rfl rfl dX5_finishDeed_32 ?_
  refine j_iconst G (1 : Int32) dX5_finishDeed_35 (by decide) ?_
  refine j_iadd G dX5_finishDeed_36 ?_
  refine j_put G hW 6 2 tyX5 (tyX5 2) tyX5_ok nmX5 k0 (by decide) rfl (by decide) rfl lay_X5 fl_X5_25 rfl rfl (tyX5_ok 2 (by decide)) rfl rfl dX5_finishDeed_37 ?_
  refine j_mI (fun I6 eI6 => ?_)
  have h := h I6 eI6
  refine j_aload_n G 0 0 dX5_finishDeed_40 rfl rfl ?_
  refine j_get G hW 6 2 0 (.int (I6 a0 2)) k0 (by decide) rfl (by decide) rfl lay_X5 fl_X5_25 rfl rfl dX5_finishDeed_41 ?_
  refine j_aload_n G 1 1 dX5_finishDeed_44 rfl rfl ?_
  refine j_aload_n G 0 0 dX5_finishDeed_45 rfl rfl ?_
  refine j_get G hW 6 0 0 (.int (I6 a0 0)) k0 (by decide) rfl (by decide) rfl lay_X5 fl_X5_18 rfl rfl dX5_finishDeed_46 ?_
  refine j_aload_n G 0 0 dX5_finishDeed_49 rfl rfl ?_
  refine j_get G hW 6 1 0 (.int (I6 a0 1)) k0 (by decide) rfl (by decide) rfl lay_X5 fl_X5_22 rfl rfl dX5_finishDeed_50 ?_
  refine j_ci (rn_V G hW (ci := 3) (n := 2) (As := [.int (I6 a0 0), .int (I6 a0 1)]) (rest := [.int (I6 a0 2)]) (c_X2_deedsAt K hW l a1 (I6 a0 0) (I6 a0 1) k1 I6 J B _ h) k1 (by decide) rfl ml_X5_58 im_X2_deedsAt se_X2_deedsAt in_X2 co_X2_deedsAt rfl (by decide +kernel) rfl rfl (by decide) (by decide) rfl rfl (Nat.le_of_ble_eq_true rfl) dX5_finishDeed_53) (fun r7 _ h => ?_)
  refine j_icmp_lt G 79 dX5_finishDeed_56 (by decide) (fun c8 => ?_) (fun c8 => ?_)
  · have h := h.1 c8
    exact j_retv G I6 dX5_finishDeed_79 h rfl
  · have h := h.2 c8
    refine j_aload_n G 0 0 dX5_finishDeed_59 rfl rfl ?_
    refine j_iconst G (0 : Int32) dX5_finishDeed_60 (by decide) ?_
    refine j_put G hW 6 2 tyX5 (tyX5 2) tyX5_ok nmX5 k0 (by decide) rfl (by decide) rfl lay_X5 fl_X5_25 rfl rfl (tyX5_ok 2 (by decide)) rfl rfl dX5_finishDeed_61 ?_
    refine j_mI (fun I9 eI9 => ?_)
    have h := h I9 eI9
    refine j_aload_n G 0 0 dX5_finishDeed_64 rfl rfl ?_
    refine j_dup G rfl dX5_finishDeed_65 ?_
    refine j_get G hW 6 3 0 (.int (I9 a0 3)) k0 (by decide) rfl (by decide) rfl lay_X5 fl_X5_28 rfl rfl dX5_finishDeed_66 ?_
    refine j_iconst G (1 : Int32) dX5_finishDeed_69 (by decide) ?_
    refine j_iadd G dX5_finishDeed_70 ?_
    refine j_put G hW 6 3 tyX5 (tyX5 3) tyX5_ok nmX5 k0 (by decide) rfl (by decide) rfl lay_X5 fl_X5_28 rfl rfl (tyX5_ok 3 (by decide)) rfl rfl dX5_finishDeed_71 ?_
    refine j_mI (fun I10 eI10 => ?_)
    have h := h I10 eI10
    refine j_aload_n G 0 0 dX5_finishDeed_74 rfl rfl ?_
    refine j_iload_n G 2 2 dX5_finishDeed_75 rfl rfl ?_
    refine j_put G hW 6 1 tyX5 (tyX5 1) tyX5_ok nmX5 k0 (by decide) rfl (by decide) rfl lay_X5 fl_X5_22 rfl rfl (tyX5_ok 1 (by decide)) rfl rfl dX5_finishDeed_76 ?_
    refine j_mI (fun I11 eI11 => ?_)
    have h := h I11 eI11
    exact j_retv G I11 dX5_finishDeed_79 h rfl
abbrev rm_X5_figure : Room := { frames := 0, cells := 0, slots := 0, locals := 0 }
def w_X5_figure (a0 : Nat) (x1 : Int32) (I : MI) (Q : Int32 →  Prop) : Prop :=
((x1 = (1 : Int32) → Q (I a0 1)) ∧
(x1 = (2 : Int32) → Q (I a0 2)) ∧
(x1 = (3 : Int32) → Q (I a0 5)) ∧
(x1 = (4 : Int32) → Q (I a0 3)) ∧
(x1 = (5 : Int32) → (((I a0 4) = 0 → Q (0 : Int32)) ∧
(¬ (I a0 4) = 0 → Q (1 : Int32)))) ∧
(x1 = (6 : Int32) → Q (I a0 6)) ∧
(¬ x1 = (1 : Int32) → ¬ x1 = (2 : Int32) → ¬ x1 = (3 : Int32) → ¬ x1 = (4 : Int32) → ¬ x1 = (5 : Int32) → ¬ x1 = (6 : Int32) → ((x1 ≤ (10 : Int32) → Q (-1 : Int32)) ∧
(¬ x1 ≤ (10 : Int32) → (((17 : Int32) < x1 → Q (-1 : Int32)) ∧
(¬ (17 : Int32) < x1 → (vp_in (x1 - (10 : Int32)) 8 ∧
Q (I (a0 + 1) (ix (x1 - (10 : Int32)))))))))))
set_option maxHeartbeats 4000000 in
set_option maxRecDepth 100000 in
theorem c_X5_figure (K : Kx) (hW : WFK K) (l : Launch) (a0 : Nat) (x1 : Int32) (k0 : (kG K a0).1 = 7) (I : MI) (J : MJ) (B : MR) (Q : Int32 →  Prop) (h : w_X5_figure a0 x1 I Q) : Con K l yX5_figure (wsT yX5_figure cX5_figure 2 (some .int)) rm_X5_figure [.ref a0, .int x1] (I, J, B) (va_Qi (S := Unit) (fun r _ => Q r) (fun u t => HP K (I, J, B) t.heap) (AA K)) := by
  refine Con.ofJ RX5 rfl (by decide) (Nat.le_of_ble_eq_true rfl) (fun m H0 w G => ?_)
  unfold w_X5_figure at h
  show Jg K m 2 H0 w 0 [(0, .ref a0), (1, .int x1)] [] (I, J, B)
  refine j_iload_n G 1 1 dX5_figure_0 rfl rfl ?_
  by_cases c6 : x1 = (1 : Int32)
  · have h := h.1 (c6)
    refine j_tableIn G 40 dX5_figure_1 (by rw [c6]; decide) (by rw [c6]; decide) (by rw [c6] <;> rfl) (by decide) ?_
    refine j_aload_n G 0 0 dX5_figure_40 rfl rfl ?_
    refine j_get G hW 6 1 0 (.int (I a0 1)) k0 (by decide) rfl (by decide) rfl lay_X5 fl_X5_22 rfl rfl dX5_figure_41 ?_
    exact j_reti G () rfl dX5_figure_44 h rfl
  · skip
    by_cases c7 : x1 = (2 : Int32)
    · have h := h.2.1 (c7)
      refine j_tableIn G 45 dX5_figure_1 (by rw [c7]; decide) (by rw [c7]; decide) (by rw [c7] <;> rfl) (by decide) ?_
      refine j_aload_n G 0 0 dX5_figure_45 rfl rfl ?_
      refine j_get G hW 6 2 0 (.int (I a0 2)) k0 (by decide) rfl (by decide) rfl lay_X5 fl_X5_25 rfl rfl dX5_figure_46 ?_
      exact j_reti G () rfl dX5_figure_49 h rfl
    · skip
      by_cases c8 : x1 = (3 : Int32)
      · have h := h.2.2.1 (c8)
        refine j_tableIn G 50 dX5_figure_1 (by rw [c8]; decide) (by rw [c8]; decide) (by rw [c8] <;> rfl) (by decide) ?_
        refine j_aload_n G 0 0 dX5_figure_50 rfl rfl ?_
        refine j_get G hW 6 5 0 (.int (I a0 5)) k0 (by decide) rfl (by decide) rfl lay_X5 fl_X5_35 rfl rfl dX5_figure_51 ?_
        exact j_reti G () rfl dX5_figure_54 h rfl
      · skip
        by_cases c9 : x1 = (4 : Int32)
        · have h := h.2.2.2.1 (c9)
          refine j_tableIn G 55 dX5_figure_1 (by rw [c9]; decide) (by rw [c9]; decide) (by rw [c9] <;> rfl) (by decide) ?_
          refine j_aload_n G 0 0 dX5_figure_55 rfl rfl ?_
          refine j_get G hW 6 3 0 (.int (I a0 3)) k0 (by decide) rfl (by decide) rfl lay_X5 fl_X5_28 rfl rfl dX5_figure_56 ?_
          exact j_reti G () rfl dX5_figure_59 h rfl
        · skip
          by_cases c10 : x1 = (5 : Int32)
          · have h := h.2.2.2.2.1 (c10)
            refine j_tableIn G 60 dX5_figure_1 (by rw [c10]; decide) (by rw [c10]; decide) (by rw [c10] <;> rfl) (by decide) ?_
            refine j_aload_n G 0 0 dX5_figure_60 rfl rfl ?_
            refine j_get G hW 6 4 0 (.int (I a0 4)) k0 (by decide) rfl (by decide) rfl lay_X5 fl_X5_31 rfl rfl dX5_figure_61 ?_
            refine j_if_eq G 71 dX5_figure_64 (by decide) (fun c1 => ?_) (fun c1 => ?_)
            · have h := h.1 c1
              refine j_iconst G (0 : Int32) dX5_figure_71 (by decide) ?_
              exact j_reti G () rfl dX5_figure_72 h rfl
            · have h := h.2 c1
              refine j_iconst G (1 : Int32) dX5_figure_67 (by decide) ?_
              refine j_goto G 72 dX5_figure_68 (by decide) ?_
              exact j_reti G () rfl dX5_figure_72 h rfl
          · skip
            by_cases c11 : x1 = (6 : Int32)
            · have h := h.2.2.2.2.2.1 (c11)
              refine j_tableIn G 73 dX5_figure_1 (by rw [c11]; decide) (by rw [c11]; decide) (by rw [c11] <;> rfl) (by decide) ?_
              refine j_aload_n G 0 0 dX5_figure_73 rfl rfl ?_
              refine j_get G hW 6 6 0 (.int (I a0 6)) k0 (by decide) rfl (by decide) rfl lay_X5 fl_X5_38 rfl rfl dX5_figure_74 ?_
              exact j_reti G () rfl dX5_figure_77 h rfl
            · skip
              have h := h.2.2.2.2.2.2 c6 c7 c8 c9 c10 c11
              have nc6 := sw_ne (n := 1) rfl c6
              have nc7 := sw_ne (n := 2) rfl c7
              have nc8 := sw_ne (n := 3) rfl c8
              have nc9 := sw_ne (n := 4) rfl c9
              have nc10 := sw_ne (n := 5) rfl c10
              have nc11 := sw_ne (n := 6) rfl c11
              refine j_tableOut G 78 dX5_figure_1 (by omega) (by decide) ?_
              refine j_iload_n G 1 1 dX5_figure_78 rfl rfl ?_
              refine j_bipush G (10 : Int32) dX5_figure_79 (by decide) ?_
              refine j_icmp_le G 102 dX5_figure_81 (by decide) (fun c2 => ?_) (fun c2 => ?_)
              · have h := h.1 c2
                refine j_iconst G (-1 : Int32) dX5_figure_102 (by decide) ?_
                exact j_reti G () rfl dX5_figure_103 h rfl
              · have h := h.2 c2
                refine j_iload_n G 1 1 dX5_figure_84 rfl rfl ?_
                refine j_bipush G (17 : Int32) dX5_figure_85 (by decide) ?_
                refine j_icmp_gt G 102 dX5_figure_87 (by decide) (fun c3 => ?_) (fun c3 => ?_)
                · have h := h.1 c3
                  refine j_iconst G (-1 : Int32) dX5_figure_102 (by decide) ?_
                  exact j_reti G () rfl dX5_figure_103 h rfl
                · have h := h.2 c3
                  refine j_aload_n G 0 0 dX5_figure_90 rfl rfl ?_
                  have kk4 : kG K (a0 + 1) = (20, 8) := wk_7_1 hW k0
                  refine j_get G hW 6 7 4 (.ref (a0 + 1)) k0 (by decide) rfl (by decide) rfl lay_X5 fl_X5_9 rfl rfl dX5_figure_91 ?_
                  refine j_iload_n G 1 1 dX5_figure_94 rfl rfl ?_
                  refine j_bipush G (10 : Int32) dX5_figure_95 (by decide) ?_
                  refine j_isub G dX5_figure_97 ?_
                  obtain ⟨b5, h⟩ := h
                  refine j_iald G hW kk4 b5 dX5_figure_98 ?_
                  refine j_goto G 103 dX5_figure_99 (by decide) ?_
                  exact j_reti G () rfl dX5_figure_103 h rfl
