abbrev rm_X3_clear : Room := { frames := 0, cells := 0, slots := 0, locals := 0 }
def w_X3_clear (a0 : Nat) (x1 : Int32) (I : MI) (Q : MI → Prop) : Prop :=
(∀ I1, I1 = ui I a0 2 (0 : Int32) →
(∀ I2, I2 = ui I1 a0 3 (0 : Int32) →
(∀ I3, I3 = ui I2 a0 4 x1 →
Q I3)))
set_option maxHeartbeats 4000000 in
set_option maxRecDepth 100000 in
theorem c_X3_clear (K : Kx) (hW : WFK K) (l : Launch) (a0 : Nat) (x1 : Int32) (k0 : (kG K a0).1 = 5) (I : MI) (J : MJ) (B : MR) (Q : MI → Prop) (h : w_X3_clear a0 x1 I Q) : Con K l yX3_clear (wsT yX3_clear cX3_clear 2 none) rm_X3_clear [.ref a0, .int x1] (I, J, B) (va_Qv (S := MI) Q (fun u t => HP K (u, J, B) t.heap) (AA K)) := by
  refine Con.ofJ RX3 rfl (by decide) (Nat.le_of_ble_eq_true rfl) (fun m H0 w G => ?_)
  unfold w_X3_clear at h
  show Jg K m 2 H0 w 0 [(0, .ref a0), (1, .int x1)] [] (I, J, B)
  refine j_aload_n G 0 0 dX3_clear_0 rfl rfl ?_
  refine j_iconst G (0 : Int32) dX3_clear_1 (by decide) ?_
  refine j_put G hW 4 2 tyX3 (tyX3 2) tyX3_ok nmX3 k0 (by decide) rfl (by decide) rfl lay_X3 fl_X3_18 rfl rfl (tyX3_ok 2 (by decide)) rfl rfl dX3_clear_2 ?_
  refine j_mI (fun I1 eI1 => ?_)
  have h := h I1 eI1
  refine j_aload_n G 0 0 dX3_clear_5 rfl rfl ?_
  refine j_iconst G (0 : Int32) dX3_clear_6 (by decide) ?_
  refine j_put G hW 4 3 tyX3 (tyX3 3) tyX3_ok nmX3 k0 (by decide) rfl (by decide) rfl lay_X3 fl_X3_22 rfl rfl (tyX3_ok 3 (by decide)) rfl rfl dX3_clear_7 ?_
  refine j_mI (fun I2 eI2 => ?_)
  have h := h I2 eI2
  refine j_aload_n G 0 0 dX3_clear_10 rfl rfl ?_
  refine j_iload_n G 1 1 dX3_clear_11 rfl rfl ?_
  refine j_put G hW 4 4 tyX3 (tyX3 4) tyX3_ok nmX3 k0 (by decide) rfl (by decide) rfl lay_X3 fl_X3_25 rfl rfl (tyX3_ok 4 (by decide)) rfl rfl dX3_clear_12 ?_
  refine j_mI (fun I3 eI3 => ?_)
  have h := h I3 eI3
  exact j_retv G I3 dX3_clear_15 h rfl
abbrev rm_X3_copyFrom : Room := { frames := 1, cells := 0, slots := 0, locals := 48 }
def w_X3_copyFrom (a0 : Nat) (a1 : Nat) (I : MI) (Q : MI → Prop) : Prop :=
(∀ I3, I3 = uc I (a1 + 1) (a0 + 1) 6 →
(∀ I6, I6 = uc I3 (a1 + 2) (a0 + 2) 6 →
(∀ I7, I7 = ui I6 a0 2 (I6 a1 2) →
(∀ I8, I8 = ui I7 a0 3 (I7 a1 3) →
(∀ I9, I9 = ui I8 a0 4 (I8 a1 4) →
Q I9)))))
set_option maxHeartbeats 4000000 in
set_option maxRecDepth 100000 in
theorem c_X3_copyFrom (K : Kx) (hW : WFK K) (l : Launch) (a0 : Nat) (a1 : Nat) (k0 : (kG K a0).1 = 5) (k1 : (kG K a1).1 = 5) (I : MI) (J : MJ) (B : MR) (Q : MI → Prop) (h : w_X3_copyFrom a0 a1 I Q) : Con K l yX3_copyFrom (wsT yX3_copyFrom cX3_copyFrom 2 none) rm_X3_copyFrom [.ref a0, .ref a1] (I, J, B) (va_Qv (S := MI) Q (fun u t => HP K (u, J, B) t.heap) (AA K)) := by
  refine Con.ofJ RX3 rfl (by decide) (Nat.le_of_ble_eq_true rfl) (fun m H0 w G => ?_)
  unfold w_X3_copyFrom at h
  show Jg K m 2 H0 w 0 [(0, .ref a0), (1, .ref a1)] [] (I, J, B)
  refine j_aload_n G 1 1 dX3_copyFrom_0 rfl rfl ?_
  have kk1 : kG K (a1 + 1) = (20, 6) := wk_5_1 hW k1
  refine j_get G hW 4 0 4 (.ref (a1 + 1)) k1 (by decide) rfl (by decide) rfl lay_X3 fl_X3_9 rfl rfl dX3_copyFrom_1 ?_
  refine j_iconst G (0 : Int32) dX3_copyFrom_4 (by decide) ?_
  refine j_aload_n G 0 0 dX3_copyFrom_5 rfl rfl ?_
  have kk2 : kG K (a0 + 1) = (20, 6) := wk_5_1 hW k0
  refine j_get G hW 4 0 4 (.ref (a0 + 1)) k0 (by decide) rfl (by decide) rfl lay_X3 fl_X3_9 rfl rfl dX3_copyFrom_6 ?_
  refine j_iconst G (0 : Int32) dX3_copyFrom_9 (by decide) ?_
  refine j_bipush G (6 : Int32) dX3_copyFrom_10 (by decide) ?_
  refine j_copyi G hW 6 kk1 kk2 (by decide) (by decide) (by decide) (by decide) ml_X3_28 nat_copy st_copy in_J10 (by decide) (by decide) (Nat.le_of_ble_eq_true rfl) dX3_copyFrom_12 ?_
  refine j_mI (fun I3 eI3 => ?_)
  have h := h I3 eI3
  refine j_aload_n G 1 1 dX3_copyFrom_15 rfl rfl ?_
  have kk4 : kG K (a1 + 2) = (20, 6) := wk_5_2 hW k1
  refine j_get G hW 4 1 5 (.ref (a1 + 2)) k1 (by decide) rfl (by decide) rfl lay_X3 fl_X3_15 rfl rfl dX3_copyFrom_16 ?_
  refine j_iconst G (0 : Int32) dX3_copyFrom_19 (by decide) ?_
  refine j_aload_n G 0 0 dX3_copyFrom_20 rfl rfl ?_
  have kk5 : kG K (a0 + 2) = (20, 6) := wk_5_2 hW k0
  refine j_get G hW 4 1 5 (.ref (a0 + 2)) k0 (by decide) rfl (by decide) rfl lay_X3 fl_X3_15 rfl rfl dX3_copyFrom_21 ?_
  refine j_iconst G (0 : Int32) dX3_copyFrom_24 (by decide) ?_
  refine j_bipush G (6 : Int32) dX3_copyFrom_25 (by decide) ?_
  refine j_copyi G hW 6 kk4 kk5 (by decide) (by decide) (by decide) (by decide) ml_X3_28 nat_copy st_copy in_J10 (by decide) (by decide) (Nat.le_of_ble_eq_true rfl) dX3_copyFrom_27 ?_
  refine j_mI (fun I6 eI6 => ?_)
  have h := h I6 eI6
  refine j_aload_n G 0 0 dX3_copyFrom_30 rfl rfl ?_
  refine j_aload_n G 1 1 dX3_copyFrom_31 rfl rfl ?_
  refine j_get G hW 4 2 0 (.int (I6 a1 2)) k1 (by decide) rfl (by decide) rfl lay_X3 fl_X3_18 rfl rfl dX3_copyFrom_32 ?_
  refine j_put G hW 4 2 tyX3 (tyX3 2) tyX3_ok nmX3 k0 (by decide) rfl (by decide) rfl lay_X3 fl_X3_18 rfl rfl (tyX3_ok 2 (by decide)) rfl rfl dX3_copyFrom_35 ?_
  refine j_mI (fun I7 eI7 => ?_)
  have h := h I7 eI7
  refine j_aload_n G 0 0 dX3_copyFrom_38 rfl rfl ?_
  refine j_aload_n G 1 1 dX3_copyFrom_39 rfl rfl ?_
  refine j_get G hW 4 3 0 (.int (I7 a1 3)) k1 (by decide) rfl (by decide) rfl lay_X3 fl_X3_22 rfl rfl dX3_copyFrom_40 ?_
  refine j_put G hW 4 3 tyX3 (tyX3 3) tyX3_ok nmX3 k0 (by decide) rfl (by decide) rfl lay_X3 fl_X3_22 rfl rfl (tyX3_ok 3 (by decide)) rfl rfl dX3_copyFrom_43 ?_
  refine j_mI (fun I8 eI8 => ?_)
  have h := h I8 eI8
  refine j_aload_n G 0 0 dX3_copyFrom_46 rfl rfl ?_
  refine j_aload_n G 1 1 dX3_copyFrom_47 rfl rfl ?_
  refine j_get G hW 4 4 0 (.int (I8 a1 4)) k1 (by decide) rfl (by decide) rfl lay_X3 fl_X3_25 rfl rfl dX3_copyFrom_48 ?_
  refine j_put G hW 4 4 tyX3 (tyX3 4) tyX3_ok nmX3 k0 (by decide) rfl (by decide) rfl lay_X3 fl_X3_25 rfl rfl (tyX3_ok 4 (by decide)) rfl rfl dX3_copyFrom_51 ?_
  refine j_mI (fun I9 eI9 => ?_)
  have h := h I9 eI9
  exact j_retv G I9 dX3_copyFrom_54 h rfl
abbrev rm_X3_isFull : Room := { frames := 0, cells := 0, slots := 0, locals := 0 }
def w_X3_isFull (a0 : Nat) (I : MI) (Q : Int32 →  Prop) : Prop :=
(((I a0 3) < (I a0 4) → Q (0 : Int32)) ∧
(¬ (I a0 3) < (I a0 4) → Q (1 : Int32)))
set_option maxHeartbeats 4000000 in
set_option maxRecDepth 100000 in
theorem c_X3_isFull (K : Kx) (hW : WFK K) (l : Launch) (a0 : Nat) (k0 : (kG K a0).1 = 5) (I : MI) (J : MJ) (B : MR) (Q : Int32 →  Prop) (h : w_X3_isFull a0 I Q) : Con K l yX3_isFull (wsT yX3_isFull cX3_isFull 1 (some .boolean)) rm_X3_isFull [.ref a0] (I, J, B) (va_Qi (S := Unit) (fun r _ => Q r) (fun u t => HP K (I, J, B) t.heap) (AA K)) := by
  refine Con.ofJ RX3 rfl (by decide) (Nat.le_of_ble_eq_true rfl) (fun m H0 w G => ?_)
  unfold w_X3_isFull at h
  show Jg K m 1 H0 w 0 [(0, .ref a0)] [] (I, J, B)
  refine j_aload_n G 0 0 dX3_isFull_0 rfl rfl ?_
  refine j_get G hW 4 3 0 (.int (I a0 3)) k0 (by decide) rfl (by decide) rfl lay_X3 fl_X3_22 rfl rfl dX3_isFull_1 ?_
  refine j_aload_n G 0 0 dX3_isFull_4 rfl rfl ?_
  refine j_get G hW 4 4 0 (.int (I a0 4)) k0 (by decide) rfl (by decide) rfl lay_X3 fl_X3_25 rfl rfl dX3_isFull_5 ?_
  refine j_icmp_lt G 15 dX3_isFull_8 (by decide) (fun c1 => ?_) (fun c1 => ?_)
  · have h := h.1 c1
    refine j_iconst G (0 : Int32) dX3_isFull_15 (by decide) ?_
    exact j_reti G () (by decide) dX3_isFull_16 h rfl
  · have h := h.2 c1
    refine j_iconst G (1 : Int32) dX3_isFull_11 (by decide) ?_
    refine j_goto G 16 dX3_isFull_12 (by decide) ?_
    exact j_reti G () (by decide) dX3_isFull_16 h rfl
abbrev rm_X3_add : Room := { frames := 0, cells := 0, slots := 0, locals := 0 }
def w_X3_add (a0 : Nat) (x1 : Int32) (x2 : Int32) (I : MI) (Q : MI → Prop) : Prop :=
(((6 : Int32) ≤ (I a0 3) → Q I) ∧
(¬ (6 : Int32) ≤ (I a0 3) → (∀ x3_2, x3_2 = ((I a0 2) + (I a0 3)) - ((I a0 2) + (I a0 3)) / (6 : Int32) * (6 : Int32) →
(vp_in x3_2 6 ∧
(∀ I5, I5 = ui I (a0 + 1) (ix x3_2) x1 →
(vp_in x3_2 6 ∧
(∀ I8, I8 = ui I5 (a0 + 2) (ix x3_2) x2 →
(∀ I9, I9 = ui I8 a0 3 ((I8 a0 3) + (1 : Int32)) →
Q I9))))))))
set_option maxHeartbeats 4000000 in
set_option maxRecDepth 100000 in
theorem c_X3_add (K : Kx) (hW : WFK K) (l : Launch) (a0 : Nat) (x1 : Int32) (x2 : Int32) (k0 : (kG K a0).1 = 5) (I : MI) (J : MJ) (B : MR) (Q : MI → Prop) (h : w_X3_add a0 x1 x2 I Q) : Con K l yX3_add (wsT yX3_add cX3_add 4 none) rm_X3_add [.ref a0, .int x1, .int x2] (I, J, B) (va_Qv (S := MI) Q (fun u t => HP K (u, J, B) t.heap) (AA K)) := by
  refine Con.ofJ RX3 rfl (by decide) (Nat.le_of_ble_eq_true rfl) (fun m H0 w G => ?_)
  unfold w_X3_add at h
  show Jg K m 4 H0 w 0 [(0, .ref a0), (1, .int x1), (2, .int x2)] [] (I, J, B)
  refine j_aload_n G 0 0 dX3_add_0 rfl rfl ?_
  refine j_get G hW 4 3 0 (.int (I a0 3)) k0 (by decide) rfl (by decide) rfl lay_X3 fl_X3_22 rfl rfl dX3_add_1 ?_
  refine j_bipush G (6 : Int32) dX3_add_4 (by decide) ?_
  refine j_icmp_ge G 46 dX3_add_6 (by decide) (fun c1 => ?_) (fun c1 => ?_)
  · have h := h.1 c1
    exact j_retv G I dX3_add_46 h rfl
  · have h := h.2 c1
    refine j_aload_n G 0 0 dX3_add_9 rfl rfl ?_
    refine j_get G hW 4 2 0 (.int (I a0 2)) k0 (by decide) rfl (by decide) rfl lay_X3 fl_X3_18 rfl rfl dX3_add_10 ?_
    refine j_aload_n G 0 0 dX3_add_13 rfl rfl ?_
    refine j_get G hW 4 3 0 (.int (I a0 3)) k0 (by decide) rfl (by decide) rfl lay_X3 fl_X3_22 rfl rfl dX3_add_14 ?_
    refine j_iadd G dX3_add_17 ?_
    refine j_bipush G (6 : Int32) dX3_add_18 (by decide) ?_
    refine j_irem G (by decide) dX3_add_20 ?_
    refine j_nm (fun x3_2 ex3_2 => ?_)
    have h := h x3_2 ex3_2
    refine j_istore_n G 3 [(3, .int x3_2), (0, .ref a0), (1, .int x1), (2, .int x2)] dX3_add_21 rfl (by decide) rfl ?_
    refine j_aload_n G 1 0 dX3_add_22 rfl rfl ?_
    have kk3 : kG K (a0 + 1) = (20, 6) := wk_5_1 hW k0
    refine j_get G hW 4 0 4 (.ref (a0 + 1)) k0 (by decide) rfl (by decide) rfl lay_X3 fl_X3_9 rfl rfl dX3_add_23 ?_
    refine j_iload_n G 0 3 dX3_add_26 rfl rfl ?_
    refine j_iload_n G 2 1 dX3_add_27 rfl rfl ?_
    obtain ⟨b4, h⟩ := h
    refine j_iast G hW kk3 b4 dX3_add_28 ?_
    refine j_mI (fun I5 eI5 => ?_)
    have h := h I5 eI5
    refine j_aload_n G 1 0 dX3_add_29 rfl rfl ?_
    have kk6 : kG K (a0 + 2) = (20, 6) := wk_5_2 hW k0
    refine j_get G hW 4 1 5 (.ref (a0 + 2)) k0 (by decide) rfl (by decide) rfl lay_X3 fl_X3_15 rfl rfl dX3_add_30 ?_
    refine j_iload_n G 0 3 dX3_add_33 rfl rfl ?_
    refine j_iload_n G 3 2 dX3_add_34 rfl rfl ?_
    obtain ⟨b7, h⟩ := h
    refine j_iast G hW kk6 b7 dX3_add_35 ?_
    refine j_mI (fun I8 eI8 => ?_)
    have h := h I8 eI8
    refine j_aload_n G 1 0 dX3_add_36 rfl rfl ?_
    refine j_dup G rfl dX3_add_37 ?_
    refine j_get G hW 4 3 0 (.int (I8 a0 3)) k0 (by decide) rfl (by decide) rfl lay_X3 fl_X3_22 rfl rfl dX3_add_38 ?_
    refine j_iconst G (1 : Int32) dX3_add_41 (by decide) ?_
    refine j_iadd G dX3_add_42 ?_
    refine j_put G hW 4 3 tyX3 (tyX3 3) tyX3_ok nmX3 k0 (by decide) rfl (by decide) rfl lay_X3 fl_X3_22 rfl rfl (tyX3_ok 3 (by decide)) rfl rfl dX3_add_43 ?_
    refine j_mI (fun I9 eI9 => ?_)
    have h := h I9 eI9
    exact j_retv G I9 dX3_add_46 h rfl
abbrev rm_X3_heldAt : Room := { frames := 0, cells := 0, slots := 0, locals := 0 }
def w_X3_heldAt (a0 : Nat) (x1 : Int32) (I : MI) (Q : Int32 →  Prop) : Prop :=
((x1 < 0 → Q (-2 : Int32)) ∧
(¬ x1 < 0 → ((x1 < (I a0 3) → (vp_in (((I a0 2) + x1) - ((I a0 2) + x1) / (6 : Int32) * (6 : Int32)) 6 ∧
Q (I (a0 + 1) (ix (((I a0 2) + x1) - ((I a0 2) + x1) / (6 : Int32) * (6 : Int32)))))) ∧
(¬ x1 < (I a0 3) → Q (-2 : Int32)))))
set_option maxHeartbeats 4000000 in
set_option maxRecDepth 100000 in
theorem c_X3_heldAt (K : Kx) (hW : WFK K) (l : Launch) (a0 : Nat) (x1 : Int32) (k0 : (kG K a0).1 = 5) (I : MI) (J : MJ) (B : MR) (Q : Int32 →  Prop) (h : w_X3_heldAt a0 x1 I Q) : Con K l yX3_heldAt (wsT yX3_heldAt cX3_heldAt 2 (some .int)) rm_X3_heldAt [.ref a0, .int x1] (I, J, B) (va_Qi (S := Unit) (fun r _ => Q r) (fun u t => HP K (I, J, B) t.heap) (AA K)) := by
  refine Con.ofJ RX3 rfl (by decide) (Nat.le_of_ble_eq_true rfl) (fun m H0 w G => ?_)
  unfold w_X3_heldAt at h
  show Jg K m 2 H0 w 0 [(0, .ref a0), (1, .int x1)] [] (I, J, B)
  refine j_iload_n G 1 1 dX3_heldAt_0 rfl rfl ?_
  refine j_if_lt G 12 dX3_heldAt_1 (by decide) (fun c1 => ?_) (fun c1 => ?_)
  · have h := h.1 c1
    refine j_bipush G (-2 : Int32) dX3_heldAt_12 (by decide) ?_
    refine j_goto G 31 dX3_heldAt_14 (by decide) ?_
    exact j_reti G () rfl dX3_heldAt_31 h rfl
  · have h := h.2 c1
    refine j_iload_n G 1 1 dX3_heldAt_4 rfl rfl ?_
    refine j_aload_n G 0 0 dX3_heldAt_5 rfl rfl ?_
    refine j_get G hW 4 3 0 (.int (I a0 3)) k0 (by decide) rfl (by decide) rfl lay_X3 fl_X3_22 rfl rfl dX3_heldAt_6 ?_
    refine j_icmp_lt G 17 dX3_heldAt_9 (by decide) (fun c2 => ?_) (fun c2 => ?_)
    · have h := h.1 c2
      refine j_aload_n G 0 0 dX3_heldAt_17 rfl rfl ?_
      have kk3 : kG K (a0 + 1) = (20, 6) := wk_5_1 hW k0
      refine j_get G hW 4 0 4 (.ref (a0 + 1)) k0 (by decide) rfl (by decide) rfl lay_X3 fl_X3_9 rfl rfl dX3_heldAt_18 ?_
      refine j_aload_n G 0 0 dX3_heldAt_21 rfl rfl ?_
      refine j_get G hW 4 2 0 (.int (I a0 2)) k0 (by decide) rfl (by decide) rfl lay_X3 fl_X3_18 rfl rfl dX3_heldAt_22 ?_
      refine j_iload_n G 1 1 dX3_heldAt_25 rfl rfl ?_
      refine j_iadd G dX3_heldAt_26 ?_
      refine j_bipush G (6 : Int32) dX3_heldAt_27 (by decide) ?_
      refine j_irem G (by decide) dX3_heldAt_29 ?_
      obtain ⟨b4, h⟩ := h
      refine j_iald G hW kk3 b4 dX3_heldAt_30 ?_
      exact j_reti G () rfl dX3_heldAt_31 h rfl
    · have h := h.2 c2
      refine j_bipush G (-2 : Int32) dX3_heldAt_12 (by decide) ?_
      refine j_goto G 31 dX3_heldAt_14 (by decide) ?_
      exact j_reti G () rfl dX3_heldAt_31 h rfl
abbrev rm_X3_markAt : Room := { frames := 0, cells := 0, slots := 0, locals := 0 }
def w_X3_markAt (a0 : Nat) (x1 : Int32) (I : MI) (Q : Int32 →  Prop) : Prop :=
((x1 < 0 → Q (-1 : Int32)) ∧
(¬ x1 < 0 → ((x1 < (I a0 3) → (vp_in (((I a0 2) + x1) - ((I a0 2) + x1) / (6 : Int32) * (6 : Int32)) 6 ∧
Q (I (a0 + 2) (ix (((I a0 2) + x1) - ((I a0 2) + x1) / (6 : Int32) * (6 : Int32)))))) ∧
(¬ x1 < (I a0 3) → Q (-1 : Int32)))))
set_option maxHeartbeats 4000000 in
set_option maxRecDepth 100000 in
theorem c_X3_markAt (K : Kx) (hW : WFK K) (l : Launch) (a0 : Nat) (x1 : Int32) (k0 : (kG K a0).1 = 5) (I : MI) (J : MJ) (B : MR) (Q : Int32 →  Prop) (h : w_X3_markAt a0 x1 I Q) : Con K l yX3_markAt (wsT yX3_markAt cX3_markAt 2 (some .int)) rm_X3_markAt [.ref a0, .int x1] (I, J, B) (va_Qi (S := Unit) (fun r _ => Q r) (fun u t => HP K (I, J, B) t.heap) (AA K)) := by
  refine Con.ofJ RX3 rfl (by decide) (Nat.le_of_ble_eq_true rfl) (fun m H0 w G => ?_)
  unfold w_X3_markAt at h
  show Jg K m 2 H0 w 0 [(0, .ref a0), (1, .int x1)] [] (I, J, B)
  refine j_iload_n G 1 1 dX3_markAt_0 rfl rfl ?_
  refine j_if_lt G 12 dX3_markAt_1 (by decide) (fun c1 => ?_) (fun c1 => ?_)
  · have h := h.1 c1
    refine j_iconst G (-1 : Int32) dX3_markAt_12 (by decide) ?_
    refine j_goto G 30 dX3_markAt_13 (by decide) ?_
    exact j_reti G () rfl dX3_markAt_30 h rfl
  · have h := h.2 c1
    refine j_iload_n G 1 1 dX3_markAt_4 rfl rfl ?_
    refine j_aload_n G 0 0 dX3_markAt_5 rfl rfl ?_
    refine j_get G hW 4 3 0 (.int (I a0 3)) k0 (by decide) rfl (by decide) rfl lay_X3 fl_X3_22 rfl rfl dX3_markAt_6 ?_
    refine j_icmp_lt G 16 dX3_markAt_9 (by decide) (fun c2 => ?_) (fun c2 => ?_)
    · have h := h.1 c2
      refine j_aload_n G 0 0 dX3_markAt_16 rfl rfl ?_
      have kk3 : kG K (a0 + 2) = (20, 6) := wk_5_2 hW k0
      refine j_get G hW 4 1 5 (.ref (a0 + 2)) k0 (by decide) rfl (by decide) rfl lay_X3 fl_X3_15 rfl rfl dX3_markAt_17 ?_
      refine j_aload_n G 0 0 dX3_markAt_20 rfl rfl ?_
      refine j_get G hW 4 2 0 (.int (I a0 2)) k0 (by decide) rfl (by decide) rfl lay_X3 fl_X3_18 rfl rfl dX3_markAt_21 ?_
      refine j_iload_n G 1 1 dX3_markAt_24 rfl rfl ?_
      refine j_iadd G dX3_markAt_25 ?_
      refine j_bipush G (6 : Int32) dX3_markAt_26 (by decide) ?_
      refine j_irem G (by decide) dX3_markAt_28 ?_
      obtain ⟨b4, h⟩ := h
      refine j_iald G hW kk3 b4 dX3_markAt_29 ?_
      exact j_reti G () rfl dX3_markAt_30 h rfl
    · have h := h.2 c2
      refine j_iconst G (-1 : Int32) dX3_markAt_12 (by decide) ?_
      refine j_goto G 30 dX3_markAt_13 (by decide) ?_
      exact j_reti G () rfl dX3_markAt_30 h rfl
abbrev rm_X3_take : Room := { frames := 0, cells := 0, slots := 0, locals := 0 }
def w_X3_take (a0 : Nat) (I : MI) (Q : Int32 → MI → Prop) : Prop :=
((¬ (I a0 3) = 0 → (vp_in (I a0 2) 6 ∧
(∀ x1_4, x1_4 = I (a0 + 1) (ix (I a0 2)) →
(∀ I5, I5 = ui I a0 2 (((I a0 2) + (1 : Int32)) - ((I a0 2) + (1 : Int32)) / (6 : Int32) * (6 : Int32)) →
(∀ I6, I6 = ui I5 a0 3 ((I5 a0 3) - (1 : Int32)) →
Q x1_4 I6))))) ∧
((I a0 3) = 0 → Q (0 : Int32) I))
set_option maxHeartbeats 4000000 in
set_option maxRecDepth 100000 in
theorem c_X3_take (K : Kx) (hW : WFK K) (l : Launch) (a0 : Nat) (k0 : (kG K a0).1 = 5) (I : MI) (J : MJ) (B : MR) (Q : Int32 → MI → Prop) (h : w_X3_take a0 I Q) : Con K l yX3_take (wsT yX3_take cX3_take 2 (some .int)) rm_X3_take [.ref a0] (I, J, B) (va_Qi (S := MI) Q (fun u t => HP K (u, J, B) t.heap) (AA K)) := by
  refine Con.ofJ RX3 rfl (by decide) (Nat.le_of_ble_eq_true rfl) (fun m H0 w G => ?_)
  unfold w_X3_take at h
  show Jg K m 2 H0 w 0 [(0, .ref a0)] [] (I, J, B)
  refine j_aload_n G 0 0 dX3_take_0 rfl rfl ?_
  refine j_get G hW 4 3 0 (.int (I a0 3)) k0 (by decide) rfl (by decide) rfl lay_X3 fl_X3_22 rfl rfl dX3_take_1 ?_
  refine j_if_ne G 9 dX3_take_4 (by decide) (fun c1 => ?_) (fun c1 => ?_)
  · have h := h.1 c1
    refine j_aload_n G 0 0 dX3_take_9 rfl rfl ?_
    have kk2 : kG K (a0 + 1) = (20, 6) := wk_5_1 hW k0
    refine j_get G hW 4 0 4 (.ref (a0 + 1)) k0 (by decide) rfl (by decide) rfl lay_X3 fl_X3_9 rfl rfl dX3_take_10 ?_
    refine j_aload_n G 0 0 dX3_take_13 rfl rfl ?_
    refine j_get G hW 4 2 0 (.int (I a0 2)) k0 (by decide) rfl (by decide) rfl lay_X3 fl_X3_18 rfl rfl dX3_take_14 ?_
    obtain ⟨b3, h⟩ := h
    refine j_iald G hW kk2 b3 dX3_take_17 ?_
    refine j_nm (fun x1_4 ex1_4 => ?_)
    have h := h x1_4 ex1_4
    refine j_istore_n G 1 [(1, .int x1_4), (0, .ref a0)] dX3_take_18 rfl (by decide) rfl ?_
    refine j_aload_n G 1 0 dX3_take_19 rfl rfl ?_
    refine j_aload_n G 1 0 dX3_take_20 rfl rfl ?_
    refine j_get G hW 4 2 0 (.int (I a0 2)) k0 (by decide) rfl (by decide) rfl lay_X3 fl_X3_18 rfl rfl dX3_take_21 ?_
    refine j_iconst G (1 : Int32) dX3_take_24 (by decide) ?_
    refine j_iadd G dX3_take_25 ?_
    refine j_bipush G (6 : Int32) dX3_take_26 (by decide) ?_
    refine j_irem G (by decide) dX3_take_28 ?_
    refine j_put G hW 4 2 tyX3 (tyX3 2) tyX3_ok nmX3 k0 (by decide) rfl (by decide) rfl lay_X3 fl_X3_18 rfl rfl (tyX3_ok 2 (by decide)) rfl rfl dX3_take_29 ?_
    refine j_mI (fun I5 eI5 => ?_)
    have h := h I5 eI5
    refine j_aload_n G 1 0 dX3_take_32 rfl rfl ?_
    refine j_dup G rfl dX3_take_33 ?_
    refine j_get G hW 4 3 0 (.int (I5 a0 3)) k0 (by decide) rfl (by decide) rfl lay_X3 fl_X3_22 rfl rfl dX3_take_34 ?_
    refine j_iconst G (1 : Int32) dX3_take_37 (by decide) ?_
    refine j_isub G dX3_take_38 ?_
    refine j_put G hW 4 3 tyX3 (tyX3 3) tyX3_ok nmX3 k0 (by decide) rfl (by decide) rfl lay_X3 fl_X3_22 rfl rfl (tyX3_ok 3 (by decide)) rfl rfl dX3_take_39 ?_
    refine j_mI (fun I6 eI6 => ?_)
    have h := h I6 eI6
    refine j_iload_n G 0 1 dX3_take_42 rfl rfl ?_
    exact j_reti G I6 rfl dX3_take_43 h rfl
  · have h := h.2 c1
    refine j_iconst G (0 : Int32) dX3_take_7 (by decide) ?_
    exact j_reti G I rfl dX3_take_8 h rfl
abbrev rm_X3_holds : Room := { frames := 0, cells := 0, slots := 0, locals := 0 }
def w_X3_holds_l2 (a0 : Nat) (x1 : Int32) (I : MI)  (Q : Int32 →  Prop) (rec : Int32 → Prop) (x2 : Int32) : Prop :=
(((I a0 3) ≤ x2 → Q (0 : Int32)) ∧
(¬ (I a0 3) ≤ x2 → (vp_in (((I a0 2) + x2) - ((I a0 2) + x2) / (6 : Int32) * (6 : Int32)) 6 ∧
((¬ (I (a0 + 1) (ix (((I a0 2) + x2) - ((I a0 2) + x2) / (6 : Int32) * (6 : Int32)))) = x1 → rec (x2 + 1)) ∧
((I (a0 + 1) (ix (((I a0 2) + x2) - ((I a0 2) + x2) / (6 : Int32) * (6 : Int32)))) = x1 → Q (1 : Int32))))))
set_option maxHeartbeats 4000000 in
set_option maxRecDepth 100000 in
theorem m_X3_holds_l2 {K : Kx} {l : Launch} {m : MethodId} {H0 : Heap} {Q : Int32 →  Prop} {w : HW} {I : MI} {J : MJ} {B : MR} (G : Gd l rm_X3_holds K m RX3 cX3_holds 3 H0 (some .boolean) (va_Qi (S := Unit) (fun r _ => Q r) (fun u t => HP K (I, J, B) t.heap) (AA K)) w) (hW : WFK K) (a0 : Nat) (x1 : Int32) (x2 : Int32) (ka0 : (kG K a0).1 = 5)    (h : Lp1 (w_X3_holds_l2 a0 x1 I Q) x2) : Jg K m 3 H0 w 2 [(0, .ref a0), (1, .int x1), (2, .int x2)] [] (I, J, B) := by
  obtain ⟨n, h⟩ := h
  refine lpN1_ind (P := (fun (x2 : Int32) => Jg K m 3 H0 w 2 [(0, .ref a0), (1, .int x1), (2, .int x2)] [] (I, J, B))) (fun rec hrec x2 h => ?_) n x2 h
  unfold w_X3_holds_l2 at h
  refine j_iload_n G 2 2 dX3_holds_2 rfl rfl ?_
  refine j_aload_n G 0 0 dX3_holds_3 rfl rfl ?_
  refine j_get G hW 4 3 0 (.int (I a0 3)) ka0 (by decide) rfl (by decide) rfl lay_X3 fl_X3_22 rfl rfl dX3_holds_4 ?_
  refine j_icmp_ge G 36 dX3_holds_7 (by decide) (fun c1 => ?_) (fun c1 => ?_)
  · have h := h.1 c1
    refine j_iconst G (0 : Int32) dX3_holds_36 (by decide) ?_
    exact j_reti G () (by decide) dX3_holds_37 h rfl
  · have h := h.2 c1
    refine j_aload_n G 0 0 dX3_holds_10 rfl rfl ?_
    have kk2 : kG K (a0 + 1) = (20, 6) := wk_5_1 hW ka0
    refine j_get G hW 4 0 4 (.ref (a0 + 1)) ka0 (by decide) rfl (by decide) rfl lay_X3 fl_X3_9 rfl rfl dX3_holds_11 ?_
    refine j_aload_n G 0 0 dX3_holds_14 rfl rfl ?_
    refine j_get G hW 4 2 0 (.int (I a0 2)) ka0 (by decide) rfl (by decide) rfl lay_X3 fl_X3_18 rfl rfl dX3_holds_15 ?_
    refine j_iload_n G 2 2 dX3_holds_18 rfl rfl ?_
    refine j_iadd G dX3_holds_19 ?_
    refine j_bipush G (6 : Int32) dX3_holds_20 (by decide) ?_
    refine j_irem G (by decide) dX3_holds_22 ?_
    obtain ⟨b3, h⟩ := h
    refine j_iald G hW kk2 b3 dX3_holds_23 ?_
    refine j_iload_n G 1 1 dX3_holds_24 rfl rfl ?_
    refine j_icmp_ne G 30 dX3_holds_25 (by decide) (fun c4 => ?_) (fun c4 => ?_)
    · have h := h.1 c4
      refine j_iinc G 2 (x2 + 1) [(2, .int (x2 + 1)), (0, .ref a0), (1, .int x1)] dX3_holds_30 rfl rfl (by decide) rfl ?_
      refine j_goto G 2 dX3_holds_33 (by decide) ?_
      exact Jg.sub [1, 2, 0] rfl (hrec (x2 + 1) h)
    · have h := h.2 c4
      refine j_iconst G (1 : Int32) dX3_holds_28 (by decide) ?_
      exact j_reti G () (by decide) dX3_holds_29 h rfl
def w_X3_holds (a0 : Nat) (x1 : Int32) (I : MI) (Q : Int32 →  Prop) : Prop :=
Lp1 (w_X3_holds_l2 a0 x1 I Q) (0 : Int32)
set_option maxHeartbeats 4000000 in
set_option maxRecDepth 100000 in
theorem c_X3_holds (K : Kx) (hW : WFK K) (l : Launch) (a0 : Nat) (x1 : Int32) (k0 : (kG K a0).1 = 5) (I : MI) (J : MJ) (B : MR) (Q : Int32 →  Prop) (h : w_X3_holds a0 x1 I Q) : Con K l yX3_holds (wsT yX3_holds cX3_holds 3 (some .boolean)) rm_X3_holds [.ref a0, .int x1] (I, J, B) (va_Qi (S := Unit) (fun r _ => Q r) (fun u t => HP K (I, J, B) t.heap) (AA K)) := by
  refine Con.ofJ RX3 rfl (by decide) (Nat.le_of_ble_eq_true rfl) (fun m H0 w G => ?_)
  unfold w_X3_holds at h
  show Jg K m 3 H0 w 0 [(0, .ref a0), (1, .int x1)] [] (I, J, B)
  refine j_iconst G (0 : Int32) dX3_holds_0 (by decide) ?_
  refine j_istore_n G 2 [(2, .int (0 : Int32)), (0, .ref a0), (1, .int x1)] dX3_holds_1 rfl (by decide) rfl ?_
  refine Jg.sub [1, 2, 0] rfl (m_X3_holds_l2 G hW a0 x1 (0 : Int32) k0 h)
