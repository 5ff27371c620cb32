abbrev rm_X0_copyFrom : Room := { frames := 0, cells := 0, slots := 0, locals := 0 }
def w_X0_copyFrom (a0 : Nat) (a1 : Nat) (I : MI) (Q : MI → Prop) : Prop :=
(∀ I1, I1 = ui I a0 0 (I a1 0) →
(∀ I2, I2 = ui I1 a0 1 (I1 a1 1) →
(∀ I3, I3 = ui I2 a0 2 (I2 a1 2) →
(∀ I4, I4 = ui I3 a0 3 (I3 a1 3) →
(∀ I5, I5 = ui I4 a0 4 (I4 a1 4) →
(chr (I5 a1 5) ∧
(∀ I7, I7 = ui I5 a0 5 (I5 a1 5) →
Q I7)))))))
set_option maxHeartbeats 4000000 in
set_option maxRecDepth 100000 in
theorem c_X0_copyFrom (K : Kx) (hW : WFK K) (l : Launch) (a0 : Nat) (a1 : Nat) (k0 : (kG K a0).1 = 2) (k1 : (kG K a1).1 = 2) (I : MI) (J : MJ) (B : MR) (Q : MI → Prop) (h : w_X0_copyFrom a0 a1 I Q) : Con K l yX0_copyFrom (wsT yX0_copyFrom cX0_copyFrom 2 none) rm_X0_copyFrom [.ref a0, .ref a1] (I, J, B) (va_Qv (S := MI) Q (fun u t => HP K (u, J, B) t.heap) (AA K)) := by
  refine Con.ofJ RX0 rfl (by decide) (Nat.le_of_ble_eq_true rfl) (fun m H0 w G => ?_)
  unfold w_X0_copyFrom at h
  show Jg K m 2 H0 w 0 [(0, .ref a0), (1, .ref a1)] [] (I, J, B)
  refine j_aload_n G 0 0 dX0_copyFrom_0 rfl rfl ?_
  refine j_aload_n G 1 1 dX0_copyFrom_1 rfl rfl ?_
  refine j_get G hW 1 0 0 (.int (I a1 0)) k1 (by decide) rfl (by decide) rfl lay_X0 fl_X0_9 rfl rfl dX0_copyFrom_2 ?_
  refine j_put G hW 1 0 tyX0 (tyX0 0) tyX0_ok nmX0 k0 (by decide) rfl (by decide) rfl lay_X0 fl_X0_9 rfl rfl (tyX0_ok 0 (by decide)) rfl rfl dX0_copyFrom_5 ?_
  refine j_mI (fun I1 eI1 => ?_)
  have h := h I1 eI1
  refine j_aload_n G 0 0 dX0_copyFrom_8 rfl rfl ?_
  refine j_aload_n G 1 1 dX0_copyFrom_9 rfl rfl ?_
  refine j_get G hW 1 1 0 (.int (I1 a1 1)) k1 (by decide) rfl (by decide) rfl lay_X0 fl_X0_19 rfl rfl dX0_copyFrom_10 ?_
  refine j_put G hW 1 1 tyX0 (tyX0 1) tyX0_ok nmX0 k0 (by decide) rfl (by decide) rfl lay_X0 fl_X0_19 rfl rfl (tyX0_ok 1 (by decide)) rfl rfl dX0_copyFrom_13 ?_
  refine j_mI (fun I2 eI2 => ?_)
  have h := h I2 eI2
  refine j_aload_n G 0 0 dX0_copyFrom_16 rfl rfl ?_
  refine j_aload_n G 1 1 dX0_copyFrom_17 rfl rfl ?_
  refine j_get G hW 1 2 0 (.int (I2 a1 2)) k1 (by decide) rfl (by decide) rfl lay_X0 fl_X0_22 rfl rfl dX0_copyFrom_18 ?_
  refine j_put G hW 1 2 tyX0 (tyX0 2) tyX0_ok nmX0 k0 (by decide) rfl (by decide) rfl lay_X0 fl_X0_22 rfl rfl (tyX0_ok 2 (by decide)) rfl rfl dX0_copyFrom_21 ?_
  refine j_mI (fun I3 eI3 => ?_)
  have h := h I3 eI3
  refine j_aload_n G 0 0 dX0_copyFrom_24 rfl rfl ?_
  refine j_aload_n G 1 1 dX0_copyFrom_25 rfl rfl ?_
  refine j_get G hW 1 3 0 (.int (I3 a1 3)) k1 (by decide) rfl (by decide) rfl lay_X0 fl_X0_25 rfl rfl dX0_copyFrom_26 ?_
  refine j_put G hW 1 3 tyX0 (tyX0 3) tyX0_ok nmX0 k0 (by decide) rfl (by decide) rfl lay_X0 fl_X0_25 rfl rfl (tyX0_ok 3 (by decide)) rfl rfl dX0_copyFrom_29 ?_
  refine j_mI (fun I4 eI4 => ?_)
  have h := h I4 eI4
  refine j_aload_n G 0 0 dX0_copyFrom_32 rfl rfl ?_
  refine j_aload_n G 1 1 dX0_copyFrom_33 rfl rfl ?_
  refine j_get G hW 1 4 0 (.int (I4 a1 4)) k1 (by decide) rfl (by decide) rfl lay_X0 fl_X0_28 rfl rfl dX0_copyFrom_34 ?_
  refine j_put G hW 1 4 tyX0 (tyX0 4) tyX0_ok nmX0 k0 (by decide) rfl (by decide) rfl lay_X0 fl_X0_28 rfl rfl (tyX0_ok 4 (by decide)) rfl rfl dX0_copyFrom_37 ?_
  refine j_mI (fun I5 eI5 => ?_)
  have h := h I5 eI5
  refine j_aload_n G 0 0 dX0_copyFrom_40 rfl rfl ?_
  refine j_aload_n G 1 1 dX0_copyFrom_41 rfl rfl ?_
  refine j_get G hW 1 5 0 (.int (I5 a1 5)) k1 (by decide) rfl (by decide) rfl lay_X0 fl_X0_15 rfl rfl dX0_copyFrom_42 ?_
  obtain ⟨q6, h⟩ := h
  refine j_put G hW 1 5 tyX0 (tyX0 5) tyX0_ok nmX0 k0 (by decide) rfl (by decide) rfl lay_X0 fl_X0_15 rfl rfl (tyX0_ok 5 (by decide)) (chr_n q6) (chr_f q6) dX0_copyFrom_45 ?_
  refine j_mI (fun I7 eI7 => ?_)
  have h := h I7 eI7
  exact j_retv G I7 dX0_copyFrom_48 h rfl
abbrev rm_X0_decide : Room := { frames := 0, cells := 0, slots := 0, locals := 0 }
def w_X0_decide (a0 : Nat) (x1 : Int32) (x2 : Int32) (I : MI) (Q : Int32 →  Prop) : Prop :=
(((I a0 5) = (60 : Int32) → ((x2 ≤ x1 → Q (0 : Int32)) ∧
(¬ x2 ≤ x1 → Q (1 : Int32)))) ∧
((I a0 5) = (62 : Int32) → ((x1 ≤ x2 → Q (0 : Int32)) ∧
(¬ x1 ≤ x2 → Q (1 : Int32)))) ∧
(¬ (I a0 5) = (60 : Int32) → ¬ (I a0 5) = (62 : Int32) → ((¬ x1 = x2 → Q (0 : Int32)) ∧
(x1 = x2 → Q (1 : Int32)))))
set_option maxHeartbeats 4000000 in
set_option maxRecDepth 100000 in
theorem c_X0_decide (K : Kx) (hW : WFK K) (l : Launch) (a0 : Nat) (x1 : Int32) (x2 : Int32) (k0 : (kG K a0).1 = 2) (I : MI) (J : MJ) (B : MR) (Q : Int32 →  Prop) (h : w_X0_decide a0 x1 x2 I Q) : Con K l yX0_decide (wsT yX0_decide cX0_decide 3 (some .boolean)) rm_X0_decide [.ref a0, .int x1, .int x2] (I, J, B) (va_Qi (S := Unit) (fun r _ => Q r) (fun u t => HP K (I, J, B) t.heap) (AA K)) := by
  refine Con.ofJ RX0 rfl (by decide) (Nat.le_of_ble_eq_true rfl) (fun m H0 w G => ?_)
  unfold w_X0_decide at h
  show Jg K m 3 H0 w 0 [(0, .ref a0), (1, .int x1), (2, .int x2)] [] (I, J, B)
  refine j_aload_n G 0 0 dX0_decide_0 rfl rfl ?_
  refine j_get G hW 1 5 0 (.int (I a0 5)) k0 (by decide) rfl (by decide) rfl lay_X0 fl_X0_15 rfl rfl dX0_decide_1 ?_
  by_cases c4 : (I a0 5) = (60 : Int32)
  · have h := h.1 (c4)
    refine j_lookup G 32 dX0_decide_4 (by decide) (by rw [c4] <;> rfl) (by decide) ?_
    refine j_iload_n G 1 1 dX0_decide_32 rfl rfl ?_
    refine j_iload_n G 2 2 dX0_decide_33 rfl rfl ?_
    refine j_icmp_ge G 41 dX0_decide_34 (by decide) (fun c1 => ?_) (fun c1 => ?_)
    · have h := h.1 c1
      refine j_iconst G (0 : Int32) dX0_decide_41 (by decide) ?_
      exact j_reti G () (by decide) dX0_decide_42 h rfl
    · have h := h.2 c1
      refine j_iconst G (1 : Int32) dX0_decide_37 (by decide) ?_
      refine j_goto G 42 dX0_decide_38 (by decide) ?_
      exact j_reti G () (by decide) dX0_decide_42 h rfl
  · skip
    by_cases c5 : (I a0 5) = (62 : Int32)
    · have h := h.2.1 (c5)
      refine j_lookup G 43 dX0_decide_4 (by decide) (by rw [c5] <;> rfl) (by decide) ?_
      refine j_iload_n G 1 1 dX0_decide_43 rfl rfl ?_
      refine j_iload_n G 2 2 dX0_decide_44 rfl rfl ?_
      refine j_icmp_le G 52 dX0_decide_45 (by decide) (fun c2 => ?_) (fun c2 => ?_)
      · have h := h.1 c2
        refine j_iconst G (0 : Int32) dX0_decide_52 (by decide) ?_
        exact j_reti G () (by decide) dX0_decide_53 h rfl
      · have h := h.2 c2
        refine j_iconst G (1 : Int32) dX0_decide_48 (by decide) ?_
        refine j_goto G 53 dX0_decide_49 (by decide) ?_
        exact j_reti G () (by decide) dX0_decide_53 h rfl
    · skip
      have h := h.2.2 c4 c5
      have nc4 := sw_ne (n := 60) rfl c4
      have nc5 := sw_ne (n := 62) rfl c5
      refine j_lookup G 54 dX0_decide_4 (by decide) (by simp [Op.lookupswitch.offset, nc4, Ne.symm nc4, nc5, Ne.symm nc5]; first | done | rfl) (by decide) ?_
      refine j_iload_n G 1 1 dX0_decide_54 rfl rfl ?_
      refine j_iload_n G 2 2 dX0_decide_55 rfl rfl ?_
      refine j_icmp_ne G 63 dX0_decide_56 (by decide) (fun c3 => ?_) (fun c3 => ?_)
      · have h := h.1 c3
        refine j_iconst G (0 : Int32) dX0_decide_63 (by decide) ?_
        exact j_reti G () (by decide) dX0_decide_64 h rfl
      · have h := h.2 c3
        refine j_iconst G (1 : Int32) dX0_decide_59 (by decide) ?_
        refine j_goto G 64 dX0_decide_60 (by decide) ?_
        exact j_reti G () (by decide) dX0_decide_64 h rfl
abbrev rm_X0_cellBy : Room := { frames := 0, cells := 0, slots := 0, locals := 0 }
def w_X0_cellBy (a0 : Nat) (a1 : Nat) (I : MI) (Q : Int32 →  Prop) : Prop :=
(vp_in (I a0 2) 8 ∧
Q (((I a1 (ix (I a0 2))) + (I a0 4)) - ((I a1 (ix (I a0 2))) + (I a0 4)) / (32 : Int32) * (32 : Int32)))
set_option maxHeartbeats 4000000 in
set_option maxRecDepth 100000 in
theorem c_X0_cellBy (K : Kx) (hW : WFK K) (l : Launch) (a0 : Nat) (a1 : Nat) (k0 : (kG K a0).1 = 2) (k1 : kG K a1 = (20, 8)) (I : MI) (J : MJ) (B : MR) (Q : Int32 →  Prop) (h : w_X0_cellBy a0 a1 I Q) : Con K l yX0_cellBy (wsT yX0_cellBy cX0_cellBy 2 (some .int)) rm_X0_cellBy [.ref a0, .ref a1] (I, J, B) (va_Qi (S := Unit) (fun r _ => Q r) (fun u t => HP K (I, J, B) t.heap) (AA K)) := by
  refine Con.ofJ RX0 rfl (by decide) (Nat.le_of_ble_eq_true rfl) (fun m H0 w G => ?_)
  unfold w_X0_cellBy at h
  show Jg K m 2 H0 w 0 [(0, .ref a0), (1, .ref a1)] [] (I, J, B)
  refine j_aload_n G 1 1 dX0_cellBy_0 rfl rfl ?_
  refine j_aload_n G 0 0 dX0_cellBy_1 rfl rfl ?_
  refine j_get G hW 1 2 0 (.int (I a0 2)) k0 (by decide) rfl (by decide) rfl lay_X0 fl_X0_22 rfl rfl dX0_cellBy_2 ?_
  obtain ⟨b1, h⟩ := h
  refine j_iald G hW k1 b1 dX0_cellBy_5 ?_
  refine j_aload_n G 0 0 dX0_cellBy_6 rfl rfl ?_
  refine j_get G hW 1 4 0 (.int (I a0 4)) k0 (by decide) rfl (by decide) rfl lay_X0 fl_X0_28 rfl rfl dX0_cellBy_7 ?_
  refine j_iadd G dX0_cellBy_10 ?_
  refine j_bipush G (32 : Int32) dX0_cellBy_11 (by decide) ?_
  refine j_irem G (by decide) dX0_cellBy_13 ?_
  exact j_reti G () rfl dX0_cellBy_14 h rfl
abbrev rm_X9_noTimeIsMost : Room := { frames := 0, cells := 0, slots := 0, locals := 0 }
def w_X9_noTimeIsMost (x0 : Int32)  (Q : Int32 →  Prop) : Prop :=
((¬ x0 = (-1 : Int32) → Q x0) ∧
(x0 = (-1 : Int32) → Q (1000 : Int32)))
set_option maxHeartbeats 4000000 in
set_option maxRecDepth 100000 in
theorem c_X9_noTimeIsMost (K : Kx) (hW : WFK K) (l : Launch) (x0 : Int32)  (I : MI) (J : MJ) (B : MR) (Q : Int32 →  Prop) (h : w_X9_noTimeIsMost x0 Q) : Con K l yX9_noTimeIsMost (wsT yX9_noTimeIsMost cX9_noTimeIsMost 1 (some .int)) rm_X9_noTimeIsMost [.int x0] (I, J, B) (va_Qi (S := Unit) (fun r _ => Q r) (fun u t => HP K (I, J, B) t.heap) (AA K)) := by
  refine Con.ofJ RX9 rfl (by decide) (Nat.le_of_ble_eq_true rfl) (fun m H0 w G => ?_)
  unfold w_X9_noTimeIsMost at h
  show Jg K m 1 H0 w 0 [(0, .int x0)] [] (I, J, B)
  refine j_iload_n G 0 0 dX9_noTimeIsMost_0 rfl rfl ?_
  refine j_iconst G (-1 : Int32) dX9_noTimeIsMost_1 (by decide) ?_
  refine j_icmp_ne G 11 dX9_noTimeIsMost_2 (by decide) (fun c1 => ?_) (fun c1 => ?_)
  · have h := h.1 c1
    refine j_iload_n G 0 0 dX9_noTimeIsMost_11 rfl rfl ?_
    exact j_reti G () rfl dX9_noTimeIsMost_12 h rfl
  · have h := h.2 c1
    refine j_sipush G (1000 : Int32) dX9_noTimeIsMost_5 (by decide) ?_
    refine j_goto G 12 dX9_noTimeIsMost_8 (by decide) ?_
    exact j_reti G () rfl dX9_noTimeIsMost_12 h rfl
abbrev rm_X9_isQueue : Room := { frames := 0, cells := 0, slots := 0, locals := 0 }
def w_X9_isQueue (x0 : Int32)  (Q : Int32 →  Prop) : Prop :=
((x0 < 0 → Q (0 : Int32)) ∧
(¬ x0 < 0 → (((6 : Int32) ≤ x0 → Q (0 : Int32)) ∧
(¬ (6 : Int32) ≤ x0 → Q (1 : Int32)))))
set_option maxHeartbeats 4000000 in
set_option maxRecDepth 100000 in
theorem c_X9_isQueue (K : Kx) (hW : WFK K) (l : Launch) (x0 : Int32)  (I : MI) (J : MJ) (B : MR) (Q : Int32 →  Prop) (h : w_X9_isQueue x0 Q) : Con K l yX9_isQueue (wsT yX9_isQueue cX9_isQueue 1 (some .boolean)) rm_X9_isQueue [.int x0] (I, J, B) (va_Qi (S := Unit) (fun r _ => Q r) (fun u t => HP K (I, J, B) t.heap) (AA K)) := by
  refine Con.ofJ RX9 rfl (by decide) (Nat.le_of_ble_eq_true rfl) (fun m H0 w G => ?_)
  unfold w_X9_isQueue at h
  show Jg K m 1 H0 w 0 [(0, .int x0)] [] (I, J, B)
  refine j_iload_n G 0 0 dX9_isQueue_0 rfl rfl ?_
  refine j_if_lt G 14 dX9_isQueue_1 (by decide) (fun c1 => ?_) (fun c1 => ?_)
  · have h := h.1 c1
    refine j_iconst G (0 : Int32) dX9_isQueue_14 (by decide) ?_
    exact j_reti G () (by decide) dX9_isQueue_15 h rfl
  · have h := h.2 c1
    refine j_iload_n G 0 0 dX9_isQueue_4 rfl rfl ?_
    refine j_bipush G (6 : Int32) dX9_isQueue_5 (by decide) ?_
    refine j_icmp_ge G 14 dX9_isQueue_7 (by decide) (fun c2 => ?_) (fun c2 => ?_)
    · have h := h.1 c2
      refine j_iconst G (0 : Int32) dX9_isQueue_14 (by decide) ?_
      exact j_reti G () (by decide) dX9_isQueue_15 h rfl
    · have h := h.2 c2
      refine j_iconst G (1 : Int32) dX9_isQueue_10 (by decide) ?_
      refine j_goto G 15 dX9_isQueue_11 (by decide) ?_
      exact j_reti G () (by decide) dX9_isQueue_15 h rfl
abbrev rm_X9_isSide : Room := { frames := 0, cells := 0, slots := 0, locals := 0 }
def w_X9_isSide (x0 : Int32)  (Q : Int32 →  Prop) : Prop :=
((x0 < 0 → Q (0 : Int32)) ∧
(¬ x0 < 0 → (((2 : Int32) ≤ x0 → Q (0 : Int32)) ∧
(¬ (2 : Int32) ≤ x0 → Q (1 : Int32)))))
set_option maxHeartbeats 4000000 in
set_option maxRecDepth 100000 in
theorem c_X9_isSide (K : Kx) (hW : WFK K) (l : Launch) (x0 : Int32)  (I : MI) (J : MJ) (B : MR) (Q : Int32 →  Prop) (h : w_X9_isSide x0 Q) : Con K l yX9_isSide (wsT yX9_isSide cX9_isSide 1 (some .boolean)) rm_X9_isSide [.int x0] (I, J, B) (va_Qi (S := Unit) (fun r _ => Q r) (fun u t => HP K (I, J, B) t.heap) (AA K)) := by
  refine Con.ofJ RX9 rfl (by decide) (Nat.le_of_ble_eq_true rfl) (fun m H0 w G => ?_)
  unfold w_X9_isSide at h
  show Jg K m 1 H0 w 0 [(0, .int x0)] [] (I, J, B)
  refine j_iload_n G 0 0 dX9_isSide_0 rfl rfl ?_
  refine j_if_lt G 13 dX9_isSide_1 (by decide) (fun c1 => ?_) (fun c1 => ?_)
  · have h := h.1 c1
    refine j_iconst G (0 : Int32) dX9_isSide_13 (by decide) ?_
    exact j_reti G () (by decide) dX9_isSide_14 h rfl
  · have h := h.2 c1
    refine j_iload_n G 0 0 dX9_isSide_4 rfl rfl ?_
    refine j_iconst G (2 : Int32) dX9_isSide_5 (by decide) ?_
    refine j_icmp_ge G 13 dX9_isSide_6 (by decide) (fun c2 => ?_) (fun c2 => ?_)
    · have h := h.1 c2
      refine j_iconst G (0 : Int32) dX9_isSide_13 (by decide) ?_
      exact j_reti G () (by decide) dX9_isSide_14 h rfl
    · have h := h.2 c2
      refine j_iconst G (1 : Int32) dX9_isSide_9 (by decide) ?_
      refine j_goto G 14 dX9_isSide_10 (by decide) ?_
      exact j_reti G () (by decide) dX9_isSide_14 h rfl
abbrev rm_X9_isCell : Room := { frames := 0, cells := 0, slots := 0, locals := 0 }
def w_X9_isCell (x0 : Int32)  (Q : Int32 →  Prop) : Prop :=
((x0 < 0 → Q (0 : Int32)) ∧
(¬ x0 < 0 → (((32 : Int32) ≤ x0 → Q (0 : Int32)) ∧
(¬ (32 : Int32) ≤ x0 → Q (1 : Int32)))))
set_option maxHeartbeats 4000000 in
set_option maxRecDepth 100000 in
theorem c_X9_isCell (K : Kx) (hW : WFK K) (l : Launch) (x0 : Int32)  (I : MI) (J : MJ) (B : MR) (Q : Int32 →  Prop) (h : w_X9_isCell x0 Q) : Con K l yX9_isCell (wsT yX9_isCell cX9_isCell 1 (some .boolean)) rm_X9_isCell [.int x0] (I, J, B) (va_Qi (S := Unit) (fun r _ => Q r) (fun u t => HP K (I, J, B) t.heap) (AA K)) := by
  refine Con.ofJ RX9 rfl (by decide) (Nat.le_of_ble_eq_true rfl) (fun m H0 w G => ?_)
  unfold w_X9_isCell at h
  show Jg K m 1 H0 w 0 [(0, .int x0)] [] (I, J, B)
  refine j_iload_n G 0 0 dX9_isCell_0 rfl rfl ?_
  refine j_if_lt G 14 dX9_isCell_1 (by decide) (fun c1 => ?_) (fun c1 => ?_)
  · have h := h.1 c1
    refine j_iconst G (0 : Int32) dX9_isCell_14 (by decide) ?_
    exact j_reti G () (by decide) dX9_isCell_15 h rfl
  · have h := h.2 c1
    refine j_iload_n G 0 0 dX9_isCell_4 rfl rfl ?_
    refine j_bipush G (32 : Int32) dX9_isCell_5 (by decide) ?_
    refine j_icmp_ge G 14 dX9_isCell_7 (by decide) (fun c2 => ?_) (fun c2 => ?_)
    · have h := h.1 c2
      refine j_iconst G (0 : Int32) dX9_isCell_14 (by decide) ?_
      exact j_reti G () (by decide) dX9_isCell_15 h rfl
    · have h := h.2 c2
      refine j_iconst G (1 : Int32) dX9_isCell_10 (by decide) ?_
      refine j_goto G 15 dX9_isCell_11 (by decide) ?_
      exact j_reti G () (by decide) dX9_isCell_15 h rfl
abbrev rm_X9_isRegister : Room := { frames := 0, cells := 0, slots := 0, locals := 0 }
def w_X9_isRegister (x0 : Int32)  (Q : Int32 →  Prop) : Prop :=
((x0 < 0 → Q (0 : Int32)) ∧
(¬ x0 < 0 → (((8 : Int32) ≤ x0 → Q (0 : Int32)) ∧
(¬ (8 : Int32) ≤ x0 → Q (1 : Int32)))))
set_option maxHeartbeats 4000000 in
set_option maxRecDepth 100000 in
theorem c_X9_isRegister (K : Kx) (hW : WFK K) (l : Launch) (x0 : Int32)  (I : MI) (J : MJ) (B : MR) (Q : Int32 →  Prop) (h : w_X9_isRegister x0 Q) : Con K l yX9_isRegister (wsT yX9_isRegister cX9_isRegister 1 (some .boolean)) rm_X9_isRegister [.int x0] (I, J, B) (va_Qi (S := Unit) (fun r _ => Q r) (fun u t => HP K (I, J, B) t.heap) (AA K)) := by
  refine Con.ofJ RX9 rfl (by decide) (Nat.le_of_ble_eq_true rfl) (fun m H0 w G => ?_)
  unfold w_X9_isRegister at h
  show Jg K m 1 H0 w 0 [(0, .int x0)] [] (I, J, B)
  refine j_iload_n G 0 0 dX9_isRegister_0 rfl rfl ?_
  refine j_if_lt G 14 dX9_isRegister_1 (by decide) (fun c1 => ?_) (fun c1 => ?_)
  · have h := h.1 c1
    refine j_iconst G (0 : Int32) dX9_isRegister_14 (by decide) ?_
    exact j_reti G () (by decide) dX9_isRegister_15 h rfl
  · have h := h.2 c1
    refine j_iload_n G 0 0 dX9_isRegister_4 rfl rfl ?_
    refine j_bipush G (8 : Int32) dX9_isRegister_5 (by decide) ?_
    refine j_icmp_ge G 14 dX9_isRegister_7 (by decide) (fun c2 => ?_) (fun c2 => ?_)
    · have h := h.1 c2
      refine j_iconst G (0 : Int32) dX9_isRegister_14 (by decide) ?_
      exact j_reti G () (by decide) dX9_isRegister_15 h rfl
    · have h := h.2 c2
      refine j_iconst G (1 : Int32) dX9_isRegister_10 (by decide) ?_
      refine j_goto G 15 dX9_isRegister_11 (by decide) ?_
      exact j_reti G () (by decide) dX9_isRegister_15 h rfl
abbrev rm_X9_bit : Room := { frames := 0, cells := 0, slots := 0, locals := 0 }
def w_X9_bit (x0 : Int32)  (Q : Int32 →  Prop) : Prop :=
Q ((1 : Int32) <<< (x0 &&& 31))
set_option maxHeartbeats 4000000 in
set_option maxRecDepth 100000 in
theorem c_X9_bit (K : Kx) (hW : WFK K) (l : Launch) (x0 : Int32)  (I : MI) (J : MJ) (B : MR) (Q : Int32 →  Prop) (h : w_X9_bit x0 Q) : Con K l yX9_bit (wsT yX9_bit cX9_bit 1 (some .int)) rm_X9_bit [.int x0] (I, J, B) (va_Qi (S := Unit) (fun r _ => Q r) (fun u t => HP K (I, J, B) t.heap) (AA K)) := by
  refine Con.ofJ RX9 rfl (by decide) (Nat.le_of_ble_eq_true rfl) (fun m H0 w G => ?_)
  unfold w_X9_bit at h
  show Jg K m 1 H0 w 0 [(0, .int x0)] [] (I, J, B)
  refine j_iconst G (1 : Int32) dX9_bit_0 (by decide) ?_
  refine j_iload_n G 0 0 dX9_bit_1 rfl rfl ?_
  refine j_ishl G dX9_bit_2 ?_
  exact j_reti G () rfl dX9_bit_3 h rfl
abbrev rm_X9_isIn : Room := { frames := 0, cells := 0, slots := 0, locals := 0 }
def w_X9_isIn (x0 : Int32) (x1 : Int32)  (Q : Int32 →  Prop) : Prop :=
((((x0 >>> (x1 &&& 31)) &&& (1 : Int32)) = 0 → Q (0 : Int32)) ∧
(¬ ((x0 >>> (x1 &&& 31)) &&& (1 : Int32)) = 0 → Q (1 : Int32)))
set_option maxHeartbeats 4000000 in
set_option maxRecDepth 100000 in
theorem c_X9_isIn (K : Kx) (hW : WFK K) (l : Launch) (x0 : Int32) (x1 : Int32)  (I : MI) (J : MJ) (B : MR) (Q : Int32 →  Prop) (h : w_X9_isIn x0 x1 Q) : Con K l yX9_isIn (wsT yX9_isIn cX9_isIn 2 (some .boolean)) rm_X9_isIn [.int x0, .int x1] (I, J, B) (va_Qi (S := Unit) (fun r _ => Q r) (fun u t => HP K (I, J, B) t.heap) (AA K)) := by
  refine Con.ofJ RX9 rfl (by decide) (Nat.le_of_ble_eq_true rfl) (fun m H0 w G => ?_)
  unfold w_X9_isIn at h
  show Jg K m 2 H0 w 0 [(0, .int x0), (1, .int x1)] [] (I, J, B)
  refine j_iload_n G 0 0 dX9_isIn_0 rfl rfl ?_
  refine j_iload_n G 1 1 dX9_isIn_1 rfl rfl ?_
  refine j_ishr G dX9_isIn_2 ?_
  refine j_iconst G (1 : Int32) dX9_isIn_3 (by decide) ?_
  refine j_iand G dX9_isIn_4 ?_
  refine j_if_eq G 12 dX9_isIn_5 (by decide) (fun c1 => ?_) (fun c1 => ?_)
  · have h := h.1 c1
    refine j_iconst G (0 : Int32) dX9_isIn_12 (by decide) ?_
    exact j_reti G () (by decide) dX9_isIn_13 h rfl
  · have h := h.2 c1
    refine j_iconst G (1 : Int32) dX9_isIn_8 (by decide) ?_
    refine j_goto G 13 dX9_isIn_9 (by decide) ?_
    exact j_reti G () (by decide) dX9_isIn_13 h rfl
abbrev rm_X9_isReckoning : Room := { frames := 0, cells := 0, slots := 0, locals := 0 }
def w_X9_isReckoning (x0 : Int32)  (Q : Int32 →  Prop) : Prop :=
((x0 = (1 : Int32) → Q (1 : Int32)) ∧
(¬ x0 = (1 : Int32) → ((x0 = (2 : Int32) → Q (1 : Int32)) ∧
(¬ x0 = (2 : Int32) → ((¬ x0 = (3 : Int32) → Q (0 : Int32)) ∧
(x0 = (3 : Int32) → Q (1 : Int32)))))))
set_option maxHeartbeats 4000000 in
set_option maxRecDepth 100000 in
theorem c_X9_isReckoning (K : Kx) (hW : WFK K) (l : Launch) (x0 : Int32)  (I : MI) (J : MJ) (B : MR) (Q : Int32 →  Prop) (h : w_X9_isReckoning x0 Q) : Con K l yX9_isReckoning (wsT yX9_isReckoning cX9_isReckoning 1 (some .boolean)) rm_X9_isReckoning [.int x0] (I, J, B) (va_Qi (S := Unit) (fun r _ => Q r) (fun u t => HP K (I, J, B) t.heap) (AA K)) := by
  refine Con.ofJ RX9 rfl (by decide) (Nat.le_of_ble_eq_true rfl) (fun m H0 w G => ?_)
  unfold w_X9_isReckoning at h
  show Jg K m 1 H0 w 0 [(0, .int x0)] [] (I, J, B)
  refine j_iload_n G 0 0 dX9_isReckoning_0 rfl rfl ?_
  refine j_iconst G (1 : Int32) dX9_isReckoning_1 (by decide) ?_
  refine j_icmp_eq G 15 dX9_isReckoning_2 (by decide) (fun c1 => ?_) (fun c1 => ?_)
  · have h := h.1 c1
    refine j_iconst G (1 : Int32) dX9_isReckoning_15 (by decide) ?_
    refine j_goto G 20 dX9_isReckoning_16 (by decide) ?_
    exact j_reti G () (by decide) dX9_isReckoning_20 h rfl
  · have h := h.2 c1
    refine j_iload_n G 0 0 dX9_isReckoning_5 rfl rfl ?_
    refine j_iconst G (2 : Int32) dX9_isReckoning_6 (by decide) ?_
    refine j_icmp_eq G 15 dX9_isReckoning_7 (by decide) (fun c2 => ?_) (fun c2 => ?_)
    · have h := h.1 c2
      refine j_iconst G (1 : Int32) dX9_isReckoning_15 (by decide) ?_
      refine j_goto G 20 dX9_isReckoning_16 (by decide) ?_
      exact j_reti G () (by decide) dX9_isReckoning_20 h rfl
    · have h := h.2 c2
      refine j_iload_n G 0 0 dX9_isReckoning_10 rfl rfl ?_
      refine j_iconst G (3 : Int32) dX9_isReckoning_11 (by decide) ?_
      refine j_icmp_ne G 19 dX9_isReckoning_12 (by decide) (fun c3 => ?_) (fun c3 => ?_)
      · have h := h.1 c3
        refine j_iconst G (0 : Int32) dX9_isReckoning_19 (by decide) ?_
        exact j_reti G () (by decide) dX9_isReckoning_20 h rfl
      · have h := h.2 c3
        refine j_iconst G (1 : Int32) dX9_isReckoning_15 (by decide) ?_
        refine j_goto G 20 dX9_isReckoning_16 (by decide) ?_
        exact j_reti G () (by decide) dX9_isReckoning_20 h rfl
abbrev rm_X9_reckon : Room := { frames := 0, cells := 0, slots := 0, locals := 0 }
def w_X9_reckon (x0 : Int32) (x1 : Int32) (x2 : Int32)  (Q : Int32 →  Prop) : Prop :=
((x0 = (1 : Int32) → Q ((x1 + x2) - (x1 + x2) / (1000 : Int32) * (1000 : Int32))) ∧
(x0 = (2 : Int32) → Q (((x1 - x2) + (1000 : Int32)) - ((x1 - x2) + (1000 : Int32)) / (1000 : Int32) * (1000 : Int32))) ∧
(¬ x0 = (1 : Int32) → ¬ x0 = (2 : Int32) → Q ((x1 * x2) - (x1 * x2) / (1000 : Int32) * (1000 : Int32))))
set_option maxHeartbeats 4000000 in
set_option maxRecDepth 100000 in
theorem c_X9_reckon (K : Kx) (hW : WFK K) (l : Launch) (x0 : Int32) (x1 : Int32) (x2 : Int32)  (I : MI) (J : MJ) (B : MR) (Q : Int32 →  Prop) (h : w_X9_reckon x0 x1 x2 Q) : Con K l yX9_reckon (wsT yX9_reckon cX9_reckon 3 (some .int)) rm_X9_reckon [.int x0, .int x1, .int x2] (I, J, B) (va_Qi (S := Unit) (fun r _ => Q r) (fun u t => HP K (I, J, B) t.heap) (AA K)) := by
  refine Con.ofJ RX9 rfl (by decide) (Nat.le_of_ble_eq_true rfl) (fun m H0 w G => ?_)
  unfold w_X9_reckon at h
  show Jg K m 3 H0 w 0 [(0, .int x0), (1, .int x1), (2, .int x2)] [] (I, J, B)
  refine j_iload_n G 0 0 dX9_reckon_0 rfl rfl ?_
  by_cases c1 : x0 = (1 : Int32)
  · have h := h.1 (c1)
    refine j_lookup G 28 dX9_reckon_1 (by decide) (by rw [c1] <;> rfl) (by decide) ?_
    refine j_iload_n G 1 1 dX9_reckon_28 rfl rfl ?_
    refine j_iload_n G 2 2 dX9_reckon_29 rfl rfl ?_
    refine j_iadd G dX9_reckon_30 ?_
    refine j_sipush G (1000 : Int32) dX9_reckon_31 (by decide) ?_
    refine j_irem G (by decide) dX9_reckon_34 ?_
    exact j_reti G () rfl dX9_reckon_35 h rfl
  · skip
    by_cases c2 : x0 = (2 : Int32)
    · have h := h.2.1 (c2)
      refine j_lookup G 36 dX9_reckon_1 (by decide) (by rw [c2] <;> rfl) (by decide) ?_
      refine j_iload_n G 1 1 dX9_reckon_36 rfl rfl ?_
      refine j_iload_n G 2 2 dX9_reckon_37 rfl rfl ?_
      refine j_isub G dX9_reckon_38 ?_
      refine j_sipush G (1000 : Int32) dX9_reckon_39 (by decide) ?_
      refine j_iadd G dX9_reckon_42 ?_
      refine j_sipush G (1000 : Int32) dX9_reckon_43 (by decide) ?_
      refine j_irem G (by decide) dX9_reckon_46 ?_
      exact j_reti G () rfl dX9_reckon_47 h rfl
    · skip
      have h := h.2.2 c1 c2
      have nc1 := sw_ne (n := 1) rfl c1
      have nc2 := sw_ne (n := 2) rfl c2
      refine j_lookup G 48 dX9_reckon_1 (by decide) (by simp [Op.lookupswitch.offset, nc1, Ne.symm nc1, nc2, Ne.symm nc2]; first | done | rfl) (by decide) ?_
      refine j_iload_n G 1 1 dX9_reckon_48 rfl rfl ?_
      refine j_iload_n G 2 2 dX9_reckon_49 rfl rfl ?_
      refine j_imul G dX9_reckon_50 ?_
      refine j_sipush G (1000 : Int32) dX9_reckon_51 (by decide) ?_
      refine j_irem G (by decide) dX9_reckon_54 ?_
      exact j_reti G () rfl dX9_reckon_55 h rfl
abbrev rm_X9_deedPlace : Room := { frames := 0, cells := 0, slots := 0, locals := 0 }
def w_X9_deedPlace (x0 : Int32) (x1 : Int32) (x2 : Int32)  (Q : Int32 →  Prop) : Prop :=
Q ((((x0 * (25 : Int32)) + x1) * (2 : Int32)) + x2)
set_option maxHeartbeats 4000000 in
set_option maxRecDepth 100000 in
theorem c_X9_deedPlace (K : Kx) (hW : WFK K) (l : Launch) (x0 : Int32) (x1 : Int32) (x2 : Int32)  (I : MI) (J : MJ) (B : MR) (Q : Int32 →  Prop) (h : w_X9_deedPlace x0 x1 x2 Q) : Con K l yX9_deedPlace (wsT yX9_deedPlace cX9_deedPlace 3 (some .int)) rm_X9_deedPlace [.int x0, .int x1, .int x2] (I, J, B) (va_Qi (S := Unit) (fun r _ => Q r) (fun u t => HP K (I, J, B) t.heap) (AA K)) := by
  refine Con.ofJ RX9 rfl (by decide) (Nat.le_of_ble_eq_true rfl) (fun m H0 w G => ?_)
  unfold w_X9_deedPlace at h
  show Jg K m 3 H0 w 0 [(0, .int x0), (1, .int x1), (2, .int x2)] [] (I, J, B)
  refine j_iload_n G 0 0 dX9_deedPlace_0 rfl rfl ?_
  refine j_bipush G (25 : Int32) dX9_deedPlace_1 (by decide) ?_
  refine j_imul G dX9_deedPlace_3 ?_
  refine j_iload_n G 1 1 dX9_deedPlace_4 rfl rfl ?_
  refine j_iadd G dX9_deedPlace_5 ?_
  refine j_iconst G (2 : Int32) dX9_deedPlace_6 (by decide) ?_
  refine j_imul G dX9_deedPlace_7 ?_
  refine j_iload_n G 2 2 dX9_deedPlace_8 rfl rfl ?_
  refine j_iadd G dX9_deedPlace_9 ?_
  exact j_reti G () rfl dX9_deedPlace_10 h rfl
