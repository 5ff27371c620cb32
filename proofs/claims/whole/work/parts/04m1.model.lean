abbrev rm_X10_reg : Room := { frames := 0, cells := 0, slots := 0, locals := 0 }
def w_X10_reg (a0 : Nat) (x1 : Int32) (x2 : Int32) (I : MI) (Q : Int32 →  Prop) : Prop :=
(vp_in ((x1 + (210 : Int32)) + x2) 4905 ∧
Q (I (a0 + 1) (ix ((x1 + (210 : Int32)) + x2))))
set_option maxHeartbeats 4000000 in
set_option maxRecDepth 100000 in
theorem c_X10_reg (K : Kx) (hW : WFK K) (l : Launch) (a0 : Nat) (x1 : Int32) (x2 : Int32) (k0 : (kG K a0).1 = 12) (I : MI) (J : MJ) (B : MR) (Q : Int32 →  Prop) (h : w_X10_reg a0 x1 x2 I Q) : Con K l yX10_reg (wsT yX10_reg cX10_reg 3 (some .int)) rm_X10_reg [.ref a0, .int x1, .int x2] (I, J, B) (va_Qi (S := Unit) (fun r _ => Q r) (fun u t => HP K (I, J, B) t.heap) (AA K)) := by
  refine Con.ofJ RX10 rfl (by decide) (Nat.le_of_ble_eq_true rfl) (fun m H0 w G => ?_)
  unfold w_X10_reg at h
  show Jg K m 3 H0 w 0 [(0, .ref a0), (1, .int x1), (2, .int x2)] [] (I, J, B)
  refine j_aload_n G 0 0 dX10_reg_0 rfl rfl ?_
  have kk1 : kG K (a0 + 1) = (20, 4905) := wk_12_1 hW k0
  refine j_get G hW 11 0 4 (.ref (a0 + 1)) k0 (by decide) rfl (by decide) rfl lay_X10 fl_X10_7 rfl rfl dX10_reg_1 ?_
  refine j_iload_n G 1 1 dX10_reg_4 rfl rfl ?_
  refine j_sipush G (210 : Int32) dX10_reg_5 (by decide) ?_
  refine j_iadd G dX10_reg_8 ?_
  refine j_iload_n G 2 2 dX10_reg_9 rfl rfl ?_
  refine j_iadd G dX10_reg_10 ?_
  obtain ⟨b2, h⟩ := h
  refine j_iald G hW kk1 b2 dX10_reg_11 ?_
  exact j_reti G () rfl dX10_reg_12 h rfl
abbrev rm_X10_cellOf : Room := { frames := 1, cells := 0, slots := 0, locals := 23 }
def w_X10_cellOf (a0 : Nat) (x1 : Int32) (x2 : Int32) (I : MI) (Q : Int32 →  Prop) : Prop :=
(w_X10_of a0 x1 x2 (2 : Int32) I (fun r1 =>
(w_X10_reg a0 x1 r1 I (fun r2 =>
(w_X10_of a0 x1 x2 (4 : Int32) I (fun r3 =>
Q ((r2 + r3) - (r2 + r3) / (32 : Int32) * (32 : Int32))))))))
set_option maxHeartbeats 4000000 in
set_option maxRecDepth 100000 in
theorem c_X10_cellOf (K : Kx) (hW : WFK K) (l : Launch) (a0 : Nat) (x1 : Int32) (x2 : Int32) (k0 : (kG K a0).1 = 12) (I : MI) (J : MJ) (B : MR) (Q : Int32 →  Prop) (h : w_X10_cellOf a0 x1 x2 I Q) : Con K l yX10_cellOf (wsT yX10_cellOf cX10_cellOf 3 (some .int)) rm_X10_cellOf [.ref a0, .int x1, .int x2] (I, J, B) (va_Qi (S := Unit) (fun r _ => Q r) (fun u t => HP K (I, J, B) t.heap) (AA K)) := by
  refine Con.ofJ RX10 rfl (by decide) (Nat.le_of_ble_eq_true rfl) (fun m H0 w G => ?_)
  unfold w_X10_cellOf at h
  show Jg K m 3 H0 w 0 [(0, .ref a0), (1, .int x1), (2, .int x2)] [] (I, J, B)
  refine j_aload_n G 0 0 dX10_cellOf_0 rfl rfl ?_
  refine j_iload_n G 1 1 dX10_cellOf_1 rfl rfl ?_
  refine j_aload_n G 0 0 dX10_cellOf_2 rfl rfl ?_
  refine j_iload_n G 1 1 dX10_cellOf_3 rfl rfl ?_
  refine j_iload_n G 2 2 dX10_cellOf_4 rfl rfl ?_
  refine j_iconst G (2 : Int32) dX10_cellOf_5 (by decide) ?_
  refine j_ci (rn_V G hW (ci := 11) (n := 3) (As := [.int x1, .int x2, .int (2 : Int32)]) (rest := [.int x1, .ref a0]) (c_X10_of K hW l a0 x1 x2 (2 : Int32) k0 I J B _ h) k0 (by decide) rfl ml_X10_54 im_X10_of se_X10_of in_X10 co_X10_of rfl (by decide +kernel) rfl rfl (by decide) (by decide) rfl rfl (Nat.le_of_ble_eq_true rfl) dX10_cellOf_6) (fun r1 _ h => ?_)
  refine j_ci (rn_V G hW (ci := 11) (n := 2) (As := [.int x1, .int r1]) (rest := []) (c_X10_reg K hW l a0 x1 r1 k0 I J B _ h) k0 (by decide) rfl ml_X10_92 im_X10_reg se_X10_reg in_X10 co_X10_reg rfl (by decide +kernel) rfl rfl (by decide) (by decide) rfl rfl (Nat.le_of_ble_eq_true rfl) dX10_cellOf_9) (fun r2 _ h => ?_)
  refine j_aload_n G 0 0 dX10_cellOf_12 rfl rfl ?_
  refine j_iload_n G 1 1 dX10_cellOf_13 rfl rfl ?_
  refine j_iload_n G 2 2 dX10_cellOf_14 rfl rfl ?_
  refine j_iconst G (4 : Int32) dX10_cellOf_15 (by decide) ?_
  refine j_ci (rn_V G hW (ci := 11) (n := 3) (As := [.int x1, .int x2, .int (4 : Int32)]) (rest := [.int r2]) (c_X10_of K hW l a0 x1 x2 (4 : Int32) k0 I J B _ h) k0 (by decide) rfl ml_X10_54 im_X10_of se_X10_of in_X10 co_X10_of rfl (by decide +kernel) rfl rfl (by decide) (by decide) rfl rfl (Nat.le_of_ble_eq_true rfl) dX10_cellOf_16) (fun r3 _ h => ?_)
  refine j_iadd G dX10_cellOf_19 ?_
  refine j_bipush G (32 : Int32) dX10_cellOf_20 (by decide) ?_
  refine j_irem G (by decide) dX10_cellOf_22 ?_
  exact j_reti G () rfl dX10_cellOf_23 h rfl
abbrev rm_X10_reckons : Room := { frames := 1, cells := 0, slots := 0, locals := 20 }
def w_X10_reckons (a0 : Nat) (x1 : Int32) (x2 : Int32) (x3 : Int32)  (Q : Int32 →  Prop) : Prop :=
((¬ x1 = (1 : Int32) → ((¬ x1 = (2 : Int32) → (w_X10_wrap (x2 * x3) (fun r3 =>
Q r3))) ∧
(x1 = (2 : Int32) → (w_X10_wrap (x2 - x3) (fun r4 =>
Q r4))))) ∧
(x1 = (1 : Int32) → (w_X10_wrap (x2 + x3) (fun r5 =>
Q r5))))
set_option maxHeartbeats 4000000 in
set_option maxRecDepth 100000 in
theorem c_X10_reckons (K : Kx) (hW : WFK K) (l : Launch) (a0 : Nat) (x1 : Int32) (x2 : Int32) (x3 : Int32) (k0 : (kG K a0).1 = 12) (I : MI) (J : MJ) (B : MR) (Q : Int32 →  Prop) (h : w_X10_reckons a0 x1 x2 x3 Q) : Con K l yX10_reckons (wsT yX10_reckons cX10_reckons 4 (some .int)) rm_X10_reckons [.ref a0, .int x1, .int x2, .int x3] (I, J, B) (va_Qi (S := Unit) (fun r _ => Q r) (fun u t => HP K (I, J, B) t.heap) (AA K)) := by
  refine Con.ofJ RX10 rfl (by decide) (Nat.le_of_ble_eq_true rfl) (fun m H0 w G => ?_)
  unfold w_X10_reckons at h
  show Jg K m 4 H0 w 0 [(0, .ref a0), (1, .int x1), (2, .int x2), (3, .int x3)] [] (I, J, B)
  refine j_iload_n G 1 1 dX10_reckons_0 rfl rfl ?_
  refine j_iconst G (1 : Int32) dX10_reckons_1 (by decide) ?_
  refine j_icmp_ne G 11 dX10_reckons_2 (by decide) (fun c1 => ?_) (fun c1 => ?_)
  · have h := h.1 c1
    refine j_iload_n G 1 1 dX10_reckons_11 rfl rfl ?_
    refine j_iconst G (2 : Int32) dX10_reckons_12 (by decide) ?_
    refine j_icmp_ne G 22 dX10_reckons_13 (by decide) (fun c2 => ?_) (fun c2 => ?_)
    · have h := h.1 c2
      refine j_iload_n G 2 2 dX10_reckons_22 rfl rfl ?_
      refine j_iload_n G 3 3 dX10_reckons_23 rfl rfl ?_
      refine j_imul G dX10_reckons_24 ?_
      refine j_ci (rn_S G (n := 1) (As := [.int (x2 * x3)]) (rest := []) (c_X10_wrap K hW l (x2 * x3) I J B _ h) ml_X10_95 st_X10_wrap in_X10 co_X10_wrap (by decide +kernel) rfl rfl (by decide) (by decide) rfl rfl (Nat.le_of_ble_eq_true rfl) dX10_reckons_25) (fun r3 _ h => ?_)
      exact j_reti G () rfl dX10_reckons_28 h rfl
    · have h := h.2 c2
      refine j_iload_n G 2 2 dX10_reckons_16 rfl rfl ?_
      refine j_iload_n G 3 3 dX10_reckons_17 rfl rfl ?_
      refine j_isub G dX10_reckons_18 ?_
      refine j_goto G 25 dX10_reckons_19 (by decide) ?_
      refine j_ci (rn_S G (n := 1) (As := [.int (x2 - x3)]) (rest := []) (c_X10_wrap K hW l (x2 - x3) I J B _ h) ml_X10_95 st_X10_wrap in_X10 co_X10_wrap (by decide +kernel) rfl rfl (by decide) (by decide) rfl rfl (Nat.le_of_ble_eq_true rfl) dX10_reckons_25) (fun r4 _ h => ?_)
      exact j_reti G () rfl dX10_reckons_28 h rfl
  · have h := h.2 c1
    refine j_iload_n G 2 2 dX10_reckons_5 rfl rfl ?_
    refine j_iload_n G 3 3 dX10_reckons_6 rfl rfl ?_
    refine j_iadd G dX10_reckons_7 ?_
    refine j_goto G 25 dX10_reckons_8 (by decide) ?_
    refine j_ci (rn_S G (n := 1) (As := [.int (x2 + x3)]) (rest := []) (c_X10_wrap K hW l (x2 + x3) I J B _ h) ml_X10_95 st_X10_wrap in_X10 co_X10_wrap (by decide +kernel) rfl rfl (by decide) (by decide) rfl rfl (Nat.le_of_ble_eq_true rfl) dX10_reckons_25) (fun r5 _ h => ?_)
    exact j_reti G () rfl dX10_reckons_28 h rfl
abbrev rm_X10_holds : Room := { frames := 0, cells := 0, slots := 0, locals := 0 }
def w_X10_holds (x0 : Int32) (x1 : Int32) (x2 : Int32)  (Q : Int32 →  Prop) : Prop :=
((¬ x0 = (60 : Int32) → ((¬ x0 = (62 : Int32) → ((¬ x1 = x2 → Q (0 : Int32)) ∧
(x1 = x2 → Q (1 : Int32)))) ∧
(x0 = (62 : Int32) → ((x1 ≤ x2 → Q (0 : Int32)) ∧
(¬ x1 ≤ x2 → Q (1 : Int32)))))) ∧
(x0 = (60 : Int32) → ((x2 ≤ x1 → Q (0 : Int32)) ∧
(¬ x2 ≤ x1 → Q (1 : Int32)))))
set_option maxHeartbeats 4000000 in
set_option maxRecDepth 100000 in
theorem c_X10_holds (K : Kx) (hW : WFK K) (l : Launch) (x0 : Int32) (x1 : Int32) (x2 : Int32)  (I : MI) (J : MJ) (B : MR) (Q : Int32 →  Prop) (h : w_X10_holds x0 x1 x2 Q) : Con K l yX10_holds (wsT yX10_holds cX10_holds 3 (some .boolean)) rm_X10_holds [.int x0, .int x1, .int x2] (I, J, B) (va_Qi (S := Unit) (fun r _ => Q r) (fun u t => HP K (I, J, B) t.heap) (AA K)) := by
  refine Con.ofJ RX10 rfl (by decide) (Nat.le_of_ble_eq_true rfl) (fun m H0 w G => ?_)
  unfold w_X10_holds at h
  show Jg K m 3 H0 w 0 [(0, .int x0), (1, .int x1), (2, .int x2)] [] (I, J, B)
  refine j_iload_n G 0 0 dX10_holds_0 rfl rfl ?_
  refine j_bipush G (60 : Int32) dX10_holds_1 (by decide) ?_
  refine j_icmp_ne G 19 dX10_holds_3 (by decide) (fun c1 => ?_) (fun c1 => ?_)
  · have h := h.1 c1
    refine j_iload_n G 0 0 dX10_holds_19 rfl rfl ?_
    refine j_bipush G (62 : Int32) dX10_holds_20 (by decide) ?_
    refine j_icmp_ne G 38 dX10_holds_22 (by decide) (fun c2 => ?_) (fun c2 => ?_)
    · have h := h.1 c2
      refine j_iload_n G 1 1 dX10_holds_38 rfl rfl ?_
      refine j_iload_n G 2 2 dX10_holds_39 rfl rfl ?_
      refine j_icmp_ne G 47 dX10_holds_40 (by decide) (fun c3 => ?_) (fun c3 => ?_)
      · have h := h.1 c3
        refine j_iconst G (0 : Int32) dX10_holds_47 (by decide) ?_
        exact j_reti G () (by decide) dX10_holds_48 h rfl
      · have h := h.2 c3
        refine j_iconst G (1 : Int32) dX10_holds_43 (by decide) ?_
        refine j_goto G 48 dX10_holds_44 (by decide) ?_
        exact j_reti G () (by decide) dX10_holds_48 h rfl
    · have h := h.2 c2
      refine j_iload_n G 1 1 dX10_holds_25 rfl rfl ?_
      refine j_iload_n G 2 2 dX10_holds_26 rfl rfl ?_
      refine j_icmp_le G 34 dX10_holds_27 (by decide) (fun c4 => ?_) (fun c4 => ?_)
      · have h := h.1 c4
        refine j_iconst G (0 : Int32) dX10_holds_34 (by decide) ?_
        refine j_goto G 48 dX10_holds_35 (by decide) ?_
        exact j_reti G () (by decide) dX10_holds_48 h rfl
      · have h := h.2 c4
        refine j_iconst G (1 : Int32) dX10_holds_30 (by decide) ?_
        refine j_goto G 48 dX10_holds_31 (by decide) ?_
        exact j_reti G () (by decide) dX10_holds_48 h rfl
  · have h := h.2 c1
    refine j_iload_n G 1 1 dX10_holds_6 rfl rfl ?_
    refine j_iload_n G 2 2 dX10_holds_7 rfl rfl ?_
    refine j_icmp_ge G 15 dX10_holds_8 (by decide) (fun c5 => ?_) (fun c5 => ?_)
    · have h := h.1 c5
      refine j_iconst G (0 : Int32) dX10_holds_15 (by decide) ?_
      refine j_goto G 48 dX10_holds_16 (by decide) ?_
      exact j_reti G () (by decide) dX10_holds_48 h rfl
    · have h := h.2 c5
      refine j_iconst G (1 : Int32) dX10_holds_11 (by decide) ?_
      refine j_goto G 48 dX10_holds_12 (by decide) ?_
      exact j_reti G () (by decide) dX10_holds_48 h rfl
abbrev rm_X10_sideAt : Room := { frames := 0, cells := 0, slots := 0, locals := 0 }
def w_X10_sideAt (x0 : Int32) (x1 : Int32)  (Q : Int32 →  Prop) : Prop :=
Q ((x0 + (222 : Int32)) + ((14 : Int32) * x1))
set_option maxHeartbeats 4000000 in
set_option maxRecDepth 100000 in
theorem c_X10_sideAt (K : Kx) (hW : WFK K) (l : Launch) (x0 : Int32) (x1 : Int32)  (I : MI) (J : MJ) (B : MR) (Q : Int32 →  Prop) (h : w_X10_sideAt x0 x1 Q) : Con K l yX10_sideAt (wsT yX10_sideAt cX10_sideAt 2 (some .int)) rm_X10_sideAt [.int x0, .int x1] (I, J, B) (va_Qi (S := Unit) (fun r _ => Q r) (fun u t => HP K (I, J, B) t.heap) (AA K)) := by
  refine Con.ofJ RX10 rfl (by decide) (Nat.le_of_ble_eq_true rfl) (fun m H0 w G => ?_)
  unfold w_X10_sideAt at h
  show Jg K m 2 H0 w 0 [(0, .int x0), (1, .int x1)] [] (I, J, B)
  refine j_iload_n G 0 0 dX10_sideAt_0 rfl rfl ?_
  refine j_sipush G (222 : Int32) dX10_sideAt_1 (by decide) ?_
  refine j_iadd G dX10_sideAt_4 ?_
  refine j_bipush G (14 : Int32) dX10_sideAt_5 (by decide) ?_
  refine j_iload_n G 1 1 dX10_sideAt_7 rfl rfl ?_
  refine j_imul G dX10_sideAt_8 ?_
  refine j_iadd G dX10_sideAt_9 ?_
  exact j_reti G () rfl dX10_sideAt_10 h rfl
abbrev rm_X10_waits : Room := { frames := 1, cells := 0, slots := 0, locals := 21 }
def w_X10_waits (a0 : Nat) (x1 : Int32) (x2 : Int32) (x3 : Int32) (I : MI) (Q : MI → Prop) : Prop :=
(w_X10_sideAt x1 x2 (fun r1 =>
(vp_in (r1 + (5 : Int32)) 4905 ∧
(∀ I4, I4 = ui I (a0 + 1) (ix (r1 + (5 : Int32))) x3 →
(vp_in ((r1 + (6 : Int32)) + x3) 4905 ∧
(vp_in ((r1 + (6 : Int32)) + x3) 4905 ∧
(∀ I7, I7 = ui I4 (a0 + 1) (ix ((r1 + (6 : Int32)) + x3)) ((I4 (a0 + 1) (ix ((r1 + (6 : Int32)) + x3))) + (1 : Int32)) →
Q I7)))))))
set_option maxHeartbeats 4000000 in
set_option maxRecDepth 100000 in
theorem c_X10_waits (K : Kx) (hW : WFK K) (l : Launch) (a0 : Nat) (x1 : Int32) (x2 : Int32) (x3 : Int32) (k0 : (kG K a0).1 = 12) (I : MI) (J : MJ) (B : MR) (Q : MI → Prop) (h : w_X10_waits a0 x1 x2 x3 I Q) : Con K l yX10_waits (wsT yX10_waits cX10_waits 5 none) rm_X10_waits [.ref a0, .int x1, .int x2, .int x3] (I, J, B) (va_Qv (S := MI) Q (fun u t => HP K (u, J, B) t.heap) (AA K)) := by
  refine Con.ofJ RX10 rfl (by decide) (Nat.le_of_ble_eq_true rfl) (fun m H0 w G => ?_)
  unfold w_X10_waits at h
  show Jg K m 5 H0 w 0 [(0, .ref a0), (1, .int x1), (2, .int x2), (3, .int x3)] [] (I, J, B)
  refine j_iload_n G 1 1 dX10_waits_0 rfl rfl ?_
  refine j_iload_n G 2 2 dX10_waits_1 rfl rfl ?_
  refine j_ci (rn_S G (n := 2) (As := [.int x1, .int x2]) (rest := []) (c_X10_sideAt K hW l x1 x2 I J B _ h) ml_X10_98 st_X10_sideAt in_X10 co_X10_sideAt (by decide +kernel) rfl rfl (by decide) (by decide) rfl rfl (Nat.le_of_ble_eq_true rfl) dX10_waits_2) (fun r1 _ h => ?_)
  refine j_istore G [(4, .int r1), (0, .ref a0), (1, .int x1), (2, .int x2), (3, .int x3)] dX10_waits_5 (by decide) rfl ?_
  refine j_aload_n G 1 0 dX10_waits_7 rfl rfl ?_
  have kk2 : kG K (a0 + 1) = (20, 4905) := wk_12_1 hW k0
  refine j_get G hW 11 0 4 (.ref (a0 + 1)) k0 (by decide) rfl (by decide) rfl lay_X10 fl_X10_7 rfl rfl dX10_waits_8 ?_
  refine j_iload G 0 dX10_waits_11 rfl ?_
  refine j_iconst G (5 : Int32) dX10_waits_13 (by decide) ?_
  refine j_iadd G dX10_waits_14 ?_
  refine j_iload_n G 4 3 dX10_waits_15 rfl rfl ?_
  obtain ⟨b3, h⟩ := h
  refine j_iast G hW kk2 b3 dX10_waits_16 ?_
  refine j_mI (fun I4 eI4 => ?_)
  have h := h I4 eI4
  refine j_aload_n G 1 0 dX10_waits_17 rfl rfl ?_
  refine j_get G hW 11 0 4 (.ref (a0 + 1)) k0 (by decide) rfl (by decide) rfl lay_X10 fl_X10_7 rfl rfl dX10_waits_18 ?_
  refine j_iload G 0 dX10_waits_21 rfl ?_
  refine j_bipush G (6 : Int32) dX10_waits_23 (by decide) ?_
  refine j_iadd G dX10_waits_25 ?_
  refine j_iload_n G 4 3 dX10_waits_26 rfl rfl ?_
  refine j_iadd G dX10_waits_27 ?_
  refine j_dup2 G rfl rfl dX10_waits_28 ?_
  obtain ⟨b5, h⟩ := h
  refine j_iald G hW kk2 b5 dX10_waits_29 ?_
  refine j_iconst G (1 : Int32) dX10_waits_30 (by decide) ?_
  refine j_iadd G dX10_waits_31 ?_
  obtain ⟨b6, h⟩ := h
  refine j_iast G hW kk2 b6 dX10_waits_32 ?_
  refine j_mI (fun I7 eI7 => ?_)
  have h := h I7 eI7
  exact j_retv G I7 dX10_waits_33 h rfl
abbrev rm_X10_does : Room := { frames := 4, cells := 0, slots := 0, locals := 97 }
def w_X10_does (a0 : Nat) (x1 : Int32) (x2 : Int32) (x3 : Int32) (I : MI) (Q : MI → Prop) : Prop :=
(w_X10_sideAt x1 x2 (fun r1 =>
(vp_in (r1 + (0 : Int32)) 4905 ∧
(∀ x5_4, x5_4 = I (a0 + 1) (ix (r1 + (0 : Int32))) →
(vp_in (r1 + (1 : Int32)) 4905 ∧
(vp_in ((((x1 + (366 : Int32)) + ((75 : Int32) * x2)) + ((3 : Int32) * x5_4)) + (I (a0 + 1) (ix (r1 + (1 : Int32))))) 4905 ∧
(vp_in ((((x1 + (366 : Int32)) + ((75 : Int32) * x2)) + ((3 : Int32) * x5_4)) + (I (a0 + 1) (ix (r1 + (1 : Int32))))) 4905 ∧
(∀ I8, I8 = ui I (a0 + 1) (ix ((((x1 + (366 : Int32)) + ((75 : Int32) * x2)) + ((3 : Int32) * x5_4)) + (I (a0 + 1) (ix (r1 + (1 : Int32)))))) ((I (a0 + 1) (ix ((((x1 + (366 : Int32)) + ((75 : Int32) * x2)) + ((3 : Int32) * x5_4)) + (I (a0 + 1) (ix (r1 + (1 : Int32))))))) + (1 : Int32)) →
(vp_in (r1 + (2 : Int32)) 4905 ∧
(vp_in (r1 + (2 : Int32)) 4905 ∧
(∀ I11, I11 = ui I8 (a0 + 1) (ix (r1 + (2 : Int32))) ((I8 (a0 + 1) (ix (r1 + (2 : Int32)))) + (1 : Int32)) →
(vp_in (r1 + (1 : Int32)) 4905 ∧
(vp_in (r1 + (1 : Int32)) 4905 ∧
(∀ I14, I14 = ui I11 (a0 + 1) (ix (r1 + (1 : Int32))) ((I11 (a0 + 1) (ix (r1 + (1 : Int32)))) + (1 : Int32)) →
(vp_in (r1 + (1 : Int32)) 4905 ∧
(w_X10_deed a0 x1 x2 x5_4 (I14 (a0 + 1) (ix (r1 + (1 : Int32)))) I14 (fun r16 =>
((r16 ≤ 0 → (vp_in (r1 + (3 : Int32)) 4905 ∧
(vp_in (r1 + (3 : Int32)) 4905 ∧
(∀ I20, I20 = ui I14 (a0 + 1) (ix (r1 + (3 : Int32))) ((I14 (a0 + 1) (ix (r1 + (3 : Int32)))) + (1 : Int32)) →
(vp_in (r1 + (1 : Int32)) 4905 ∧
(∀ I22, I22 = ui I20 (a0 + 1) (ix (r1 + (1 : Int32))) (0 : Int32) →
(vp_in (r1 + (0 : Int32)) 4905 ∧
(∀ I24, I24 = ui I22 (a0 + 1) (ix (r1 + (0 : Int32))) x3 →
Q I24)))))))) ∧
(¬ r16 ≤ 0 → Q I14)))))))))))))))))))
set_option maxHeartbeats 4000000 in
set_option maxRecDepth 100000 in
theorem c_X10_does (K : Kx) (hW : WFK K) (l : Launch) (a0 : Nat) (x1 : Int32) (x2 : Int32) (x3 : Int32) (k0 : (kG K a0).1 = 12) (I : MI) (J : MJ) (B : MR) (Q : MI → Prop) (h : w_X10_does a0 x1 x2 x3 I Q) : Con K l yX10_does (wsT yX10_does cX10_does 6 none) rm_X10_does [.ref a0, .int x1, .int x2, .int x3] (I, J, B) (va_Qv (S := MI) Q (fun u t => HP K (u, J, B) t.heap) (AA K)) := by
  refine Con.ofJ RX10 rfl (by decide) (Nat.le_of_ble_eq_true rfl) (fun m H0 w G => ?_)
  unfold w_X10_does at h
  show Jg K m 6 H0 w 0 [(0, .ref a0), (1, .int x1), (2, .int x2), (3, .int x3)] [] (I, J, B)
  refine j_iload_n G 1 1 dX10_does_0 rfl rfl ?_
  refine j_iload_n G 2 2 dX10_does_1 rfl rfl ?_
  refine j_ci (rn_S G (n := 2) (As := [.int x1, .int x2]) (rest := []) (c_X10_sideAt K hW l x1 x2 I J B _ h) ml_X10_98 st_X10_sideAt in_X10 co_X10_sideAt (by decide +kernel) rfl rfl (by decide) (by decide) rfl rfl (Nat.le_of_ble_eq_true rfl) dX10_does_2) (fun r1 _ h => ?_)
  refine j_istore G [(4, .int r1), (0, .ref a0), (1, .int x1), (2, .int x2), (3, .int x3)] dX10_does_5 (by decide) rfl ?_
  refine j_aload_n G 1 0 dX10_does_7 rfl rfl ?_
  have kk2 : kG K (a0 + 1) = (20, 4905) := wk_12_1 hW k0
  refine j_get G hW 11 0 4 (.ref (a0 + 1)) k0 (by decide) rfl (by decide) rfl lay_X10 fl_X10_7 rfl rfl dX10_does_8 ?_
  refine j_iload G 0 dX10_does_11 rfl ?_
  refine j_iconst G (0 : Int32) dX10_does_13 (by decide) ?_
  refine j_iadd G dX10_does_14 ?_
  obtain ⟨b3, h⟩ := h
  refine j_iald G hW kk2 b3 dX10_does_15 ?_
  refine j_nm (fun x5_4 ex5_4 => ?_)
  have h := h x5_4 ex5_4
  refine j_istore G [(5, .int x5_4), (4, .int r1), (0, .ref a0), (1, .int x1), (2, .int x2), (3, .int x3)] dX10_does_16 (by decide) rfl ?_
  refine j_aload_n G 2 0 dX10_does_18 rfl rfl ?_
  refine j_get G hW 11 0 4 (.ref (a0 + 1)) k0 (by decide) rfl (by decide) rfl lay_X10 fl_X10_7 rfl rfl dX10_does_19 ?_
  refine j_iload_n G 3 1 dX10_does_22 rfl rfl ?_
  refine j_sipush G (366 : Int32) dX10_does_23 (by decide) ?_
  refine j_iadd G dX10_does_26 ?_
  refine j_bipush G (75 : Int32) dX10_does_27 (by decide) ?_
  refine j_iload_n G 4 2 dX10_does_29 rfl rfl ?_
  refine j_imul G dX10_does_30 ?_
  refine j_iadd G dX10_does_31 ?_
  refine j_iconst G (3 : Int32) dX10_does_32 (by decide) ?_
  refine j_iload G 0 dX10_does_33 rfl ?_
  refine j_imul G dX10_does_35 ?_
  refine j_iadd G dX10_does_36 ?_
  refine j_aload_n G 2 0 dX10_does_37 rfl rfl ?_
  refine j_get G hW 11 0 4 (.ref (a0 + 1)) k0 (by decide) rfl (by decide) rfl lay_X10 fl_X10_7 rfl rfl dX10_does_38 ?_
  refine j_iload G 1 dX10_does_41 rfl ?_
  refine j_iconst G (1 : Int32) dX10_does_43 (by decide) ?_
  refine j_iadd G dX10_does_44 ?_
  obtain ⟨b5, h⟩ := h
  refine j_iald G hW kk2 b5 dX10_does_45 ?_
  refine j_iadd G dX10_does_46 ?_
  refine j_dup2 G rfl rfl dX10_does_47 ?_
  obtain ⟨b6, h⟩ := h
  refine j_iald G hW kk2 b6 dX10_does_48 ?_
  refine j_iconst G (1 : Int32) dX10_does_49 (by decide) ?_
  refine j_iadd G dX10_does_50 ?_
  obtain ⟨b7, h⟩ := h
  refine j_iast G hW kk2 b7 dX10_does_51 ?_
  refine j_mI (fun I8 eI8 => ?_)
  have h := h I8 eI8
  refine j_aload_n G 2 0 dX10_does_52 rfl rfl ?_
  refine j_get G hW 11 0 4 (.ref (a0 + 1)) k0 (by decide) rfl (by decide) rfl lay_X10 fl_X10_7 rfl rfl dX10_does_53 ?_
  refine j_iload G 1 dX10_does_56 rfl ?_
  refine j_iconst G (2 : Int32) dX10_does_58 (by decide) ?_
  refine j_iadd G dX10_does_59 ?_
  refine j_dup2 G rfl rfl dX10_does_60 ?_
  obtain ⟨b9, h⟩ := h
  refine j_iald G hW kk2 b9 dX10_does_61 ?_
  refine j_iconst G (1 : Int32) dX10_does_62 (by decide) ?_
  refine j_iadd G dX10_does_63 ?_
  obtain ⟨b10, h⟩ := h
  refine j_iast G hW kk2 b10 dX10_does_64 ?_
  refine j_mI (fun I11 eI11 => ?_)
  have h := h I11 eI11
  refine j_aload_n G 2 0 dX10_does_65 rfl rfl ?_
  refine j_get G hW 11 0 4 (.ref (a0 + 1)) k0 (by decide) rfl (by decide) rfl lay_X10 fl_X10_7 rfl rfl dX10_does_66 ?_
  refine j_iload G 1 dX10_does_69 rfl ?_
  refine j_iconst G (1 : Int32) dX10_does_71 (by decide) ?_
  refine j_iadd G dX10_does_72 ?_
  refine j_dup2 G rfl rfl dX10_does_73 ?_
  obtain ⟨b12, h⟩ := h
  refine j_iald G hW kk2 b12 dX10_does_74 ?_
  refine j_iconst G (1 : Int32) dX10_does_75 (by decide) ?_
  refine j_iadd G dX10_does_76 ?_
  obtain ⟨b13, h⟩ := h
  refine j_iast G hW kk2 b13 dX10_does_77 ?_
  refine j_mI (fun I14 eI14 => ?_)
  have h := h I14 eI14
  refine j_aload_n G 2 0 dX10_does_78 rfl rfl ?_
  refine j_iload_n G 3 1 dX10_does_79 rfl rfl ?_
  refine j_iload_n G 4 2 dX10_does_80 rfl rfl ?_
  refine j_iload G 0 dX10_does_81 rfl ?_
  refine j_aload_n G 2 0 dX10_does_83 rfl rfl ?_
  refine j_get G hW 11 0 4 (.ref (a0 + 1)) k0 (by decide) rfl (by decide) rfl lay_X10 fl_X10_7 rfl rfl dX10_does_84 ?_
  refine j_iload G 1 dX10_does_87 rfl ?_
  refine j_iconst G (1 : Int32) dX10_does_89 (by decide) ?_
  refine j_iadd G dX10_does_90 ?_
  obtain ⟨b15, h⟩ := h
  refine j_iald G hW kk2 b15 dX10_does_91 ?_
  refine j_ci (rn_V G hW (ci := 11) (n := 4) (As := [.int x1, .int x2, .int x5_4, .int (I14 (a0 + 1) (ix (r1 + (1 : Int32))))]) (rest := []) (c_X10_deed K hW l a0 x1 x2 x5_4 (I14 (a0 + 1) (ix (r1 + (1 : Int32)))) k0 I14 J B _ h) k0 (by decide) rfl ml_X10_80 im_X10_deed se_X10_deed in_X10 co_X10_deed rfl (by decide +kernel) rfl rfl (by decide) (by decide) rfl rfl (Nat.le_of_ble_eq_true rfl) dX10_does_92) (fun r16 _ h => ?_)
  refine j_if_le G 99 dX10_does_95 (by decide) (fun c17 => ?_) (fun c17 => ?_)
  · have h := h.1 c17
    refine j_aload_n G 2 0 dX10_does_99 rfl rfl ?_
    refine j_get G hW 11 0 4 (.ref (a0 + 1)) k0 (by decide) rfl (by decide) rfl lay_X10 fl_X10_7 rfl rfl dX10_does_100 ?_
    refine j_iload G 1 dX10_does_103 rfl ?_
    refine j_iconst G (3 : Int32) dX10_does_105 (by decide) ?_
    refine j_iadd G dX10_does_106 ?_
    refine j_dup2 G rfl rfl dX10_does_107 ?_
    obtain ⟨b18, h⟩ := h
    refine j_iald G hW kk2 b18 dX10_does_108 ?_
    refine j_iconst G (1 : Int32) dX10_does_109 (by decide) ?_
    refine j_iadd G dX10_does_110 ?_
    obtain ⟨b19, h⟩ := h
    refine j_iast G hW kk2 b19 dX10_does_111 ?_
    refine j_mI (fun I20 eI20 => ?_)
    have h := h I20 eI20
    refine j_aload_n G 2 0 dX10_does_112 rfl rfl ?_
    refine j_get G hW 11 0 4 (.ref (a0 + 1)) k0 (by decide) rfl (by decide) rfl lay_X10 fl_X10_7 rfl rfl dX10_does_113 ?_
    refine j_iload G 1 dX10_does_116 rfl ?_
    refine j_iconst G (1 : Int32) dX10_does_118 (by decide) ?_
    refine j_iadd G dX10_does_119 ?_
    refine j_iconst G (0 : Int32) dX10_does_120 (by decide) ?_
    obtain ⟨b21, h⟩ := h
    refine j_iast G hW kk2 b21 dX10_does_121 ?_
    refine j_mI (fun I22 eI22 => ?_)
    have h := h I22 eI22
    refine j_aload_n G 2 0 dX10_does_122 rfl rfl ?_
    refine j_get G hW 11 0 4 (.ref (a0 + 1)) k0 (by decide) rfl (by decide) rfl lay_X10 fl_X10_7 rfl rfl dX10_does_123 ?_
    refine j_iload G 1 dX10_does_126 rfl ?_
    refine j_iconst G (0 : Int32) dX10_does_128 (by decide) ?_
    refine j_iadd G dX10_does_129 ?_
    refine j_iload_n G 5 3 dX10_does_130 rfl rfl ?_
    obtain ⟨b23, h⟩ := h
    refine j_iast G hW kk2 b23 dX10_does_131 ?_
    refine j_mI (fun I24 eI24 => ?_)
    have h := h I24 eI24
    exact j_retv G I24 dX10_does_132 h rfl
  · have h := h.2 c17
    exact j_retv G I14 dX10_does_98 h rfl
abbrev rm_X10_writes : Room := { frames := 3, cells := 0, slots := 0, locals := 69 }
def w_X10_writes_p61 (a0 : Nat) (x1 : Int32) (s0 : Int32) (I : MI)  (Q : MI → Prop) : Prop :=
(w_X10_takes a0 x1 (1 : Int32) I (fun r9 I10 =>
(vp_in ((x1 + (178 : Int32)) + r9) 4905 ∧
(∀ I13, I13 = ui I10 (a0 + 1) (ix ((x1 + (178 : Int32)) + r9)) s0 →
(vp_in (x1 + (221 : Int32)) 4905 ∧
(vp_in (x1 + (221 : Int32)) 4905 ∧
(∀ I16, I16 = ui I13 (a0 + 1) (ix (x1 + (221 : Int32))) ((I13 (a0 + 1) (ix (x1 + (221 : Int32)))) + (1 : Int32)) →
Q I16)))))))
set_option maxHeartbeats 4000000 in
set_option maxRecDepth 100000 in
theorem m_X10_writes_p61 {K : Kx} {l : Launch} {m : MethodId} {H0 : Heap} {Q : MI → Prop} {w : HW} {J : MJ} {B : MR} (G : Gd l rm_X10_writes K m RX10 cX10_writes 5 H0 none (va_Qv (S := MI) Q (fun u t => HP K (u, J, B) t.heap) (AA K)) w) (hW : WFK K) (a0 : Nat) (x1 : Int32) (s0 : Int32) (ka0 : (kG K a0).1 = 12)  (I : MI)   (h : w_X10_writes_p61 a0 x1 s0 I Q) : Jg K m 5 H0 w 61 [(0, .ref a0), (1, .int x1)] [.int s0] (I, J, B) := by
  unfold w_X10_writes_p61 at h
  refine j_istore_n G 3 [(3, .int s0), (0, .ref a0), (1, .int x1)] dX10_writes_61 rfl (by decide) rfl ?_
  refine j_aload_n G 1 0 dX10_writes_62 rfl rfl ?_
  refine j_iload_n G 2 1 dX10_writes_63 rfl rfl ?_
  refine j_iconst G (1 : Int32) dX10_writes_64 (by decide) ?_
  refine j_ci (rn_V G hW (ci := 11) (n := 2) (As := [.int x1, .int (1 : Int32)]) (rest := []) (c_X10_takes K hW l a0 x1 (1 : Int32) ka0 I J B _ h) ka0 (by decide) rfl ml_X10_101 im_X10_takes se_X10_takes in_X10 co_X10_takes rfl (by decide +kernel) rfl rfl (by decide) (by decide) rfl rfl (Nat.le_of_ble_eq_true rfl) dX10_writes_65) (fun r9 I10 h => ?_)
  refine j_istore G [(4, .int r9), (3, .int s0), (0, .ref a0), (1, .int x1)] dX10_writes_68 (by decide) rfl ?_
  refine j_aload_n G 2 0 dX10_writes_70 rfl rfl ?_
  have kk11 : kG K (a0 + 1) = (20, 4905) := wk_12_1 hW ka0
  refine j_get G hW 11 0 4 (.ref (a0 + 1)) ka0 (by decide) rfl (by decide) rfl lay_X10 fl_X10_7 rfl rfl dX10_writes_71 ?_
  refine j_iload_n G 3 1 dX10_writes_74 rfl rfl ?_
  refine j_sipush G (178 : Int32) dX10_writes_75 (by decide) ?_
  refine j_iadd G dX10_writes_78 ?_
  refine j_iload G 0 dX10_writes_79 rfl ?_
  refine j_iadd G dX10_writes_81 ?_
  refine j_iload_n G 1 3 dX10_writes_82 rfl rfl ?_
  obtain ⟨b12, h⟩ := h
  refine j_iast G hW kk11 b12 dX10_writes_83 ?_
  refine j_mI (fun I13 eI13 => ?_)
  have h := h I13 eI13
  refine j_aload_n G 2 0 dX10_writes_84 rfl rfl ?_
  refine j_get G hW 11 0 4 (.ref (a0 + 1)) ka0 (by decide) rfl (by decide) rfl lay_X10 fl_X10_7 rfl rfl dX10_writes_85 ?_
  refine j_iload_n G 3 1 dX10_writes_88 rfl rfl ?_
  refine j_sipush G (221 : Int32) dX10_writes_89 (by decide) ?_
  refine j_iadd G dX10_writes_92 ?_
  refine j_dup2 G rfl rfl dX10_writes_93 ?_
  obtain ⟨b14, h⟩ := h
  refine j_iald G hW kk11 b14 dX10_writes_94 ?_
  refine j_iconst G (1 : Int32) dX10_writes_95 (by decide) ?_
  refine j_iadd G dX10_writes_96 ?_
  obtain ⟨b15, h⟩ := h
  refine j_iast G hW kk11 b15 dX10_writes_97 ?_
  refine j_mI (fun I16 eI16 => ?_)
  have h := h I16 eI16
  exact j_retv G I16 dX10_writes_98 h rfl
def w_X10_writes_p26 (a0 : Nat) (x1 : Int32) (s0 : Int32) (I : MI)  (Q : MI → Prop) : Prop :=
((¬ s0 = 0 → ((s0 = 0 → (w_X10_takes a0 x1 (2 : Int32) I (fun r7 I8 =>
w_X10_writes_p61 a0 x1 r7 I8 Q))) ∧
(¬ s0 = 0 → (w_X10_first a0 x1 (1 : Int32) (2 : Int32) I (fun r17 =>
w_X10_writes_p61 a0 x1 r17 I Q))))) ∧
(s0 = 0 → (w_X10_inQueue a0 x1 (2 : Int32) I (fun r18 =>
((¬ r18 = 0 → ((s0 = 0 → (w_X10_takes a0 x1 (2 : Int32) I (fun r21 I22 =>
w_X10_writes_p61 a0 x1 r21 I22 Q))) ∧
(¬ s0 = 0 → (w_X10_first a0 x1 (1 : Int32) (2 : Int32) I (fun r23 =>
w_X10_writes_p61 a0 x1 r23 I Q))))) ∧
(r18 = 0 → Q I))))))
set_option maxHeartbeats 4000000 in
set_option maxRecDepth 100000 in
theorem m_X10_writes_p26 {K : Kx} {l : Launch} {m : MethodId} {H0 : Heap} {Q : MI → Prop} {w : HW} {J : MJ} {B : MR} (G : Gd l rm_X10_writes K m RX10 cX10_writes 5 H0 none (va_Qv (S := MI) Q (fun u t => HP K (u, J, B) t.heap) (AA K)) w) (hW : WFK K) (a0 : Nat) (x1 : Int32) (s0 : Int32) (ka0 : (kG K a0).1 = 12)  (I : MI)   (h : w_X10_writes_p26 a0 x1 s0 I Q) : Jg K m 5 H0 w 26 [(0, .ref a0), (1, .int x1)] [.int s0] (I, J, B) := by
  unfold w_X10_writes_p26 at h
  refine j_istore_n G 2 [(2, .int s0), (0, .ref a0), (1, .int x1)] dX10_writes_26 rfl (by decide) rfl ?_
  refine j_iload_n G 0 2 dX10_writes_27 rfl rfl ?_
  refine j_if_ne G 41 dX10_writes_28 (by decide) (fun c5 => ?_) (fun c5 => ?_)
  · have h := h.1 c5
    refine j_iload_n G 0 2 dX10_writes_41 rfl rfl ?_
    refine j_if_eq G 55 dX10_writes_42 (by decide) (fun c6 => ?_) (fun c6 => ?_)
    · have h := h.1 c6
      refine j_aload_n G 1 0 dX10_writes_55 rfl rfl ?_
      refine j_iload_n G 2 1 dX10_writes_56 rfl rfl ?_
      refine j_iconst G (2 : Int32) dX10_writes_57 (by decide) ?_
      refine j_ci (rn_V G hW (ci := 11) (n := 2) (As := [.int x1, .int (2 : Int32)]) (rest := []) (c_X10_takes K hW l a0 x1 (2 : Int32) ka0 I J B _ h) ka0 (by decide) rfl ml_X10_101 im_X10_takes se_X10_takes in_X10 co_X10_takes rfl (by decide +kernel) rfl rfl (by decide) (by decide) rfl rfl (Nat.le_of_ble_eq_true rfl) dX10_writes_58) (fun r7 I8 h => ?_)
      exact Jg.sub [1, 2] rfl (m_X10_writes_p61 G hW a0 x1 r7 ka0 I8 h)
    · have h := h.2 c6
      refine j_aload_n G 1 0 dX10_writes_45 rfl rfl ?_
      refine j_iload_n G 2 1 dX10_writes_46 rfl rfl ?_
      refine j_iconst G (1 : Int32) dX10_writes_47 (by decide) ?_
      refine j_iconst G (2 : Int32) dX10_writes_48 (by decide) ?_
      refine j_ci (rn_V G hW (ci := 11) (n := 3) (As := [.int x1, .int (1 : Int32), .int (2 : Int32)]) (rest := []) (c_X10_first K hW l a0 x1 (1 : Int32) (2 : Int32) ka0 I J B _ h) ka0 (by decide) rfl ml_X10_89 im_X10_first se_X10_first in_X10 co_X10_first rfl (by decide +kernel) rfl rfl (by decide) (by decide) rfl rfl (Nat.le_of_ble_eq_true rfl) dX10_writes_49) (fun r17 _ h => ?_)
      refine j_goto G 61 dX10_writes_52 (by decide) ?_
      exact Jg.sub [1, 2] rfl (m_X10_writes_p61 G hW a0 x1 r17 ka0 I h)
  · have h := h.2 c5
    refine j_aload_n G 1 0 dX10_writes_31 rfl rfl ?_
    refine j_iload_n G 2 1 dX10_writes_32 rfl rfl ?_
    refine j_iconst G (2 : Int32) dX10_writes_33 (by decide) ?_
    refine j_ci (rn_V G hW (ci := 11) (n := 2) (As := [.int x1, .int (2 : Int32)]) (rest := []) (c_X10_inQueue K hW l a0 x1 (2 : Int32) ka0 I J B _ h) ka0 (by decide) rfl ml_X10_86 im_X10_inQueue se_X10_inQueue in_X10 co_X10_inQueue rfl (by decide +kernel) rfl rfl (by decide) (by decide) rfl rfl (Nat.le_of_ble_eq_true rfl) dX10_writes_34) (fun r18 _ h => ?_)
    refine j_if_ne G 41 dX10_writes_37 (by decide) (fun c19 => ?_) (fun c19 => ?_)
    · have h := h.1 c19
      refine j_iload_n G 0 2 dX10_writes_41 rfl rfl ?_
      refine j_if_eq G 55 dX10_writes_42 (by decide) (fun c20 => ?_) (fun c20 => ?_)
      · have h := h.1 c20
        refine j_aload_n G 1 0 dX10_writes_55 rfl rfl ?_
        refine j_iload_n G 2 1 dX10_writes_56 rfl rfl ?_
        refine j_iconst G (2 : Int32) dX10_writes_57 (by decide) ?_
        refine j_ci (rn_V G hW (ci := 11) (n := 2) (As := [.int x1, .int (2 : Int32)]) (rest := []) (c_X10_takes K hW l a0 x1 (2 : Int32) ka0 I J B _ h) ka0 (by decide) rfl ml_X10_101 im_X10_takes se_X10_takes in_X10 co_X10_takes rfl (by decide +kernel) rfl rfl (by decide) (by decide) rfl rfl (Nat.le_of_ble_eq_true rfl) dX10_writes_58) (fun r21 I22 h => ?_)
        exact Jg.sub [1, 2] rfl (m_X10_writes_p61 G hW a0 x1 r21 ka0 I22 h)
      · have h := h.2 c20
        refine j_aload_n G 1 0 dX10_writes_45 rfl rfl ?_
        refine j_iload_n G 2 1 dX10_writes_46 rfl rfl ?_
        refine j_iconst G (1 : Int32) dX10_writes_47 (by decide) ?_
        refine j_iconst G (2 : Int32) dX10_writes_48 (by decide) ?_
        refine j_ci (rn_V G hW (ci := 11) (n := 3) (As := [.int x1, .int (1 : Int32), .int (2 : Int32)]) (rest := []) (c_X10_first K hW l a0 x1 (1 : Int32) (2 : Int32) ka0 I J B _ h) ka0 (by decide) rfl ml_X10_89 im_X10_first se_X10_first in_X10 co_X10_first rfl (by decide +kernel) rfl rfl (by decide) (by decide) rfl rfl (Nat.le_of_ble_eq_true rfl) dX10_writes_49) (fun r23 _ h => ?_)
        refine j_goto G 61 dX10_writes_52 (by decide) ?_
        exact Jg.sub [1, 2] rfl (m_X10_writes_p61 G hW a0 x1 r23 ka0 I h)
    · have h := h.2 c19
      exact j_retv G I dX10_writes_40 h rfl
def w_X10_writes (a0 : Nat) (x1 : Int32) (I : MI) (Q : MI → Prop) : Prop :=
(w_X10_inQueue a0 x1 (1 : Int32) I (fun r1 =>
((¬ r1 = 0 → (w_X10_first a0 x1 (1 : Int32) (1 : Int32) I (fun r3 =>
((¬ r3 = (1 : Int32) → w_X10_writes_p26 a0 x1 (0 : Int32) I Q) ∧
(r3 = (1 : Int32) → w_X10_writes_p26 a0 x1 (1 : Int32) I Q))))) ∧
(r1 = 0 → Q I))))
set_option maxHeartbeats 4000000 in
set_option maxRecDepth 100000 in
theorem c_X10_writes (K : Kx) (hW : WFK K) (l : Launch) (a0 : Nat) (x1 : Int32) (k0 : (kG K a0).1 = 12) (I : MI) (J : MJ) (B : MR) (Q : MI → Prop) (h : w_X10_writes a0 x1 I Q) : Con K l yX10_writes (wsT yX10_writes cX10_writes 5 none) rm_X10_writes [.ref a0, .int x1] (I, J, B) (va_Qv (S := MI) Q (fun u t => HP K (u, J, B) t.heap) (AA K)) := by
  refine Con.ofJ RX10 rfl (by decide) (Nat.le_of_ble_eq_true rfl) (fun m H0 w G => ?_)
  unfold w_X10_writes at h
  show Jg K m 5 H0 w 0 [(0, .ref a0), (1, .int x1)] [] (I, J, B)
  refine j_aload_n G 0 0 dX10_writes_0 rfl rfl ?_
  refine j_iload_n G 1 1 dX10_writes_1 rfl rfl ?_
  refine j_iconst G (1 : Int32) dX10_writes_2 (by decide) ?_
  refine j_ci (rn_V G hW (ci := 11) (n := 2) (As := [.int x1, .int (1 : Int32)]) (rest := []) (c_X10_inQueue K hW l a0 x1 (1 : Int32) k0 I J B _ h) k0 (by decide) rfl ml_X10_86 im_X10_inQueue se_X10_inQueue in_X10 co_X10_inQueue rfl (by decide +kernel) rfl rfl (by decide) (by decide) rfl rfl (Nat.le_of_ble_eq_true rfl) dX10_writes_3) (fun r1 _ h => ?_)
  refine j_if_ne G 10 dX10_writes_6 (by decide) (fun c2 => ?_) (fun c2 => ?_)
  · have h := h.1 c2
    refine j_aload_n G 0 0 dX10_writes_10 rfl rfl ?_
    refine j_iload_n G 1 1 dX10_writes_11 rfl rfl ?_
    refine j_iconst G (1 : Int32) dX10_writes_12 (by decide) ?_
    refine j_iconst G (1 : Int32) dX10_writes_13 (by decide) ?_
    refine j_ci (rn_V G hW (ci := 11) (n := 3) (As := [.int x1, .int (1 : Int32), .int (1 : Int32)]) (rest := []) (c_X10_first K hW l a0 x1 (1 : Int32) (1 : Int32) k0 I J B _ h) k0 (by decide) rfl ml_X10_89 im_X10_first se_X10_first in_X10 co_X10_first rfl (by decide +kernel) rfl rfl (by decide) (by decide) rfl rfl (Nat.le_of_ble_eq_true rfl) dX10_writes_14) (fun r3 _ h => ?_)
    refine j_iconst G (1 : Int32) dX10_writes_17 (by decide) ?_
    refine j_icmp_ne G 25 dX10_writes_18 (by decide) (fun c4 => ?_) (fun c4 => ?_)
    · have h := h.1 c4
      refine j_iconst G (0 : Int32) dX10_writes_25 (by decide) ?_
      exact m_X10_writes_p26 G hW a0 x1 (0 : Int32) k0 I h
    · have h := h.2 c4
      refine j_iconst G (1 : Int32) dX10_writes_21 (by decide) ?_
      refine j_goto G 26 dX10_writes_22 (by decide) ?_
      exact m_X10_writes_p26 G hW a0 x1 (1 : Int32) k0 I h
  · have h := h.2 c2
    exact j_retv G I dX10_writes_9 h rfl
abbrev rm_X10_passes : Room := { frames := 4, cells := 0, slots := 0, locals := 97 }
def w_X10_passes_l6 (a0 : Nat) (x1 : Int32) (x2 : Int32) (x3 : Int32)   (Q : MI → Prop) (rec : MI → Prop) (I : MI) : Prop :=
(vp_in (x3 + (4 : Int32)) 4905 ∧
((¬ (I (a0 + 1) (ix (x3 + (4 : Int32)))) = 0 → Q I) ∧
((I (a0 + 1) (ix (x3 + (4 : Int32)))) = 0 → (vp_in (x3 + (0 : Int32)) 4905 ∧
(w_X10_deed a0 x1 x2 (I (a0 + 1) (ix (x3 + (0 : Int32)))) (0 : Int32) I (fun r6 =>
((¬ r6 = 0 → Q I) ∧
(r6 = 0 → (vp_in (x3 + (3 : Int32)) 4905 ∧
(vp_in (x3 + (3 : Int32)) 4905 ∧
(∀ I10, I10 = ui I (a0 + 1) (ix (x3 + (3 : Int32))) ((I (a0 + 1) (ix (x3 + (3 : Int32)))) + (1 : Int32)) →
(vp_in (x3 + (0 : Int32)) 4905 ∧
(vp_in (x3 + (0 : Int32)) 4905 ∧
(∀ I13, I13 = ui I10 (a0 + 1) (ix (x3 + (0 : Int32))) ((I10 (a0 + 1) (ix (x3 + (0 : Int32)))) + (1 : Int32)) →
rec I13))))))))))))))
set_option maxHeartbeats 4000000 in
set_option maxRecDepth 100000 in
theorem m_X10_passes_l6 {K : Kx} {l : Launch} {m : MethodId} {H0 : Heap} {Q : MI → Prop} {w : HW} {J : MJ} {B : MR} (G : Gd l rm_X10_passes K m RX10 cX10_passes 4 H0 none (va_Qv (S := MI) Q (fun u t => HP K (u, J, B) t.heap) (AA K)) w) (hW : WFK K) (a0 : Nat) (x1 : Int32) (x2 : Int32) (x3 : Int32) (ka0 : (kG K a0).1 = 12) (I : MI)   (h : Lp1 (w_X10_passes_l6 a0 x1 x2 x3 Q) I) : Jg K m 4 H0 w 6 [(0, .ref a0), (1, .int x1), (2, .int x2), (3, .int x3)] [] (I, J, B) := by
  obtain ⟨n, h⟩ := h
  refine lpN1_ind (P := (fun (I : MI) => Jg K m 4 H0 w 6 [(0, .ref a0), (1, .int x1), (2, .int x2), (3, .int x3)] [] (I, J, B))) (fun rec hrec I h => ?_) n I h
  unfold w_X10_passes_l6 at h
  refine j_aload_n G 0 0 dX10_passes_6 rfl rfl ?_
  have kk2 : kG K (a0 + 1) = (20, 4905) := wk_12_1 hW ka0
  refine j_get G hW 11 0 4 (.ref (a0 + 1)) ka0 (by decide) rfl (by decide) rfl lay_X10 fl_X10_7 rfl rfl dX10_passes_7 ?_
  refine j_iload_n G 3 3 dX10_passes_10 rfl rfl ?_
  refine j_iconst G (4 : Int32) dX10_passes_11 (by decide) ?_
  refine j_iadd G dX10_passes_12 ?_
  obtain ⟨b3, h⟩ := h
  refine j_iald G hW kk2 b3 dX10_passes_13 ?_
  refine j_if_ne G 62 dX10_passes_14 (by decide) (fun c4 => ?_) (fun c4 => ?_)
  · have h := h.1 c4
    exact j_retv G I dX10_passes_62 h rfl
  · have h := h.2 c4
    refine j_aload_n G 0 0 dX10_passes_17 rfl rfl ?_
    refine j_iload_n G 1 1 dX10_passes_18 rfl rfl ?_
    refine j_iload_n G 2 2 dX10_passes_19 rfl rfl ?_
    refine j_aload_n G 0 0 dX10_passes_20 rfl rfl ?_
    refine j_get G hW 11 0 4 (.ref (a0 + 1)) ka0 (by decide) rfl (by decide) rfl lay_X10 fl_X10_7 rfl rfl dX10_passes_21 ?_
    refine j_iload_n G 3 3 dX10_passes_24 rfl rfl ?_
    refine j_iconst G (0 : Int32) dX10_passes_25 (by decide) ?_
    refine j_iadd G dX10_passes_26 ?_
    obtain ⟨b5, h⟩ := h
    refine j_iald G hW kk2 b5 dX10_passes_27 ?_
    refine j_iconst G (0 : Int32) dX10_passes_28 (by decide) ?_
    refine j_ci (rn_V G hW (ci := 11) (n := 4) (As := [.int x1, .int x2, .int (I (a0 + 1) (ix (x3 + (0 : Int32)))), .int (0 : Int32)]) (rest := []) (c_X10_deed K hW l a0 x1 x2 (I (a0 + 1) (ix (x3 + (0 : Int32)))) (0 : Int32) ka0 I J B _ h) ka0 (by decide) rfl ml_X10_80 im_X10_deed se_X10_deed in_X10 co_X10_deed rfl (by decide +kernel) rfl rfl (by decide) (by decide) rfl rfl (Nat.le_of_ble_eq_true rfl) dX10_passes_29) (fun r6 _ h => ?_)
    refine j_if_ne G 62 dX10_passes_32 (by decide) (fun c7 => ?_) (fun c7 => ?_)
    · have h := h.1 c7
      exact j_retv G I dX10_passes_62 h rfl
    · have h := h.2 c7
      refine j_aload_n G 0 0 dX10_passes_35 rfl rfl ?_
      refine j_get G hW 11 0 4 (.ref (a0 + 1)) ka0 (by decide) rfl (by decide) rfl lay_X10 fl_X10_7 rfl rfl dX10_passes_36 ?_
      refine j_iload_n G 3 3 dX10_passes_39 rfl rfl ?_
      refine j_iconst G (3 : Int32) dX10_passes_40 (by decide) ?_
      refine j_iadd G dX10_passes_41 ?_
      refine j_dup2 G rfl rfl dX10_passes_42 ?_
      obtain ⟨b8, h⟩ := h
      refine j_iald G hW kk2 b8 dX10_passes_43 ?_
      refine j_iconst G (1 : Int32) dX10_passes_44 (by decide) ?_
      refine j_iadd G dX10_passes_45 ?_
      obtain ⟨b9, h⟩ := h
      refine j_iast G hW kk2 b9 dX10_passes_46 ?_
      refine j_mI (fun I10 eI10 => ?_)
      have h := h I10 eI10
      refine j_aload_n G 0 0 dX10_passes_47 rfl rfl ?_
      refine j_get G hW 11 0 4 (.ref (a0 + 1)) ka0 (by decide) rfl (by decide) rfl lay_X10 fl_X10_7 rfl rfl dX10_passes_48 ?_
      refine j_iload_n G 3 3 dX10_passes_51 rfl rfl ?_
      refine j_iconst G (0 : Int32) dX10_passes_52 (by decide) ?_
      refine j_iadd G dX10_passes_53 ?_
      refine j_dup2 G rfl rfl dX10_passes_54 ?_
      obtain ⟨b11, h⟩ := h
      refine j_iald G hW kk2 b11 dX10_passes_55 ?_
      refine j_iconst G (1 : Int32) dX10_passes_56 (by decide) ?_
      refine j_iadd G dX10_passes_57 ?_
      obtain ⟨b12, h⟩ := h
      refine j_iast G hW kk2 b12 dX10_passes_58 ?_
      refine j_mI (fun I13 eI13 => ?_)
      have h := h I13 eI13
      refine j_goto G 6 dX10_passes_59 (by decide) ?_
      exact hrec I13 h
def w_X10_passes (a0 : Nat) (x1 : Int32) (x2 : Int32) (I : MI) (Q : MI → Prop) : Prop :=
(w_X10_sideAt x1 x2 (fun r1 =>
Lp1 (w_X10_passes_l6 a0 x1 x2 r1 Q) I))
set_option maxHeartbeats 4000000 in
set_option maxRecDepth 100000 in
theorem c_X10_passes (K : Kx) (hW : WFK K) (l : Launch) (a0 : Nat) (x1 : Int32) (x2 : Int32) (k0 : (kG K a0).1 = 12) (I : MI) (J : MJ) (B : MR) (Q : MI → Prop) (h : w_X10_passes a0 x1 x2 I Q) : Con K l yX10_passes (wsT yX10_passes cX10_passes 4 none) rm_X10_passes [.ref a0, .int x1, .int x2] (I, J, B) (va_Qv (S := MI) Q (fun u t => HP K (u, J, B) t.heap) (AA K)) := by
  refine Con.ofJ RX10 rfl (by decide) (Nat.le_of_ble_eq_true rfl) (fun m H0 w G => ?_)
  unfold w_X10_passes at h
  show Jg K m 4 H0 w 0 [(0, .ref a0), (1, .int x1), (2, .int x2)] [] (I, J, B)
  refine j_iload_n G 1 1 dX10_passes_0 rfl rfl ?_
  refine j_iload_n G 2 2 dX10_passes_1 rfl rfl ?_
  refine j_ci (rn_S G (n := 2) (As := [.int x1, .int x2]) (rest := []) (c_X10_sideAt K hW l x1 x2 I J B _ h) ml_X10_98 st_X10_sideAt in_X10 co_X10_sideAt (by decide +kernel) rfl rfl (by decide) (by decide) rfl rfl (Nat.le_of_ble_eq_true rfl) dX10_passes_2) (fun r1 _ h => ?_)
  refine j_istore_n G 3 [(3, .int r1), (0, .ref a0), (1, .int x1), (2, .int x2)] dX10_passes_5 rfl (by decide) rfl ?_
  refine Jg.sub [1, 2, 3, 0] rfl (m_X10_passes_l6 G hW a0 x1 x2 r1 k0 I h)
abbrev rm_X10_ends : Room := { frames := 5, cells := 0, slots := 0, locals := 122 }
def w_X10_ends (a0 : Nat) (x1 : Int32) (x2 : Int32) (I : MI) (Q : MI → Prop) : Prop :=
(w_X10_sideAt x1 x2 (fun r1 =>
(vp_in (r1 + (0 : Int32)) 4905 ∧
(w_X10_does a0 x1 x2 (I (a0 + 1) (ix (r1 + (0 : Int32)))) I (fun I4 =>
(vp_in (r1 + (4 : Int32)) 4905 ∧
(∀ I6, I6 = ui I4 (a0 + 1) (ix (r1 + (4 : Int32))) (1 : Int32) →
Q I6)))))))
set_option maxHeartbeats 4000000 in
set_option maxRecDepth 100000 in
theorem c_X10_ends (K : Kx) (hW : WFK K) (l : Launch) (a0 : Nat) (x1 : Int32) (x2 : Int32) (k0 : (kG K a0).1 = 12) (I : MI) (J : MJ) (B : MR) (Q : MI → Prop) (h : w_X10_ends a0 x1 x2 I Q) : Con K l yX10_ends (wsT yX10_ends cX10_ends 4 none) rm_X10_ends [.ref a0, .int x1, .int x2] (I, J, B) (va_Qv (S := MI) Q (fun u t => HP K (u, J, B) t.heap) (AA K)) := by
  refine Con.ofJ RX10 rfl (by decide) (Nat.le_of_ble_eq_true rfl) (fun m H0 w G => ?_)
  unfold w_X10_ends at h
  show Jg K m 4 H0 w 0 [(0, .ref a0), (1, .int x1), (2, .int x2)] [] (I, J, B)
  refine j_iload_n G 1 1 dX10_ends_0 rfl rfl ?_
  refine j_iload_n G 2 2 dX10_ends_1 rfl rfl ?_
  refine j_ci (rn_S G (n := 2) (As := [.int x1, .int x2]) (rest := []) (c_X10_sideAt K hW l x1 x2 I J B _ h) ml_X10_98 st_X10_sideAt in_X10 co_X10_sideAt (by decide +kernel) rfl rfl (by decide) (by decide) rfl rfl (Nat.le_of_ble_eq_true rfl) dX10_ends_2) (fun r1 _ h => ?_)
  refine j_istore_n G 3 [(3, .int r1), (0, .ref a0), (1, .int x1), (2, .int x2)] dX10_ends_5 rfl (by decide) rfl ?_
  refine j_aload_n G 1 0 dX10_ends_6 rfl rfl ?_
  refine j_iload_n G 2 1 dX10_ends_7 rfl rfl ?_
  refine j_iload_n G 3 2 dX10_ends_8 rfl rfl ?_
  refine j_aload_n G 1 0 dX10_ends_9 rfl rfl ?_
  have kk2 : kG K (a0 + 1) = (20, 4905) := wk_12_1 hW k0
  refine j_get G hW 11 0 4 (.ref (a0 + 1)) k0 (by decide) rfl (by decide) rfl lay_X10 fl_X10_7 rfl rfl dX10_ends_10 ?_
  refine j_iload_n G 0 3 dX10_ends_13 rfl rfl ?_
  refine j_iconst G (0 : Int32) dX10_ends_14 (by decide) ?_
  refine j_iadd G dX10_ends_15 ?_
  obtain ⟨b3, h⟩ := h
  refine j_iald G hW kk2 b3 dX10_ends_16 ?_
  refine j_cv (rn_V G hW (ci := 11) (n := 3) (As := [.int x1, .int x2, .int (I (a0 + 1) (ix (r1 + (0 : Int32))))]) (rest := []) (c_X10_does K hW l a0 x1 x2 (I (a0 + 1) (ix (r1 + (0 : Int32)))) k0 I J B _ h) k0 (by decide) rfl ml_X10_104 im_X10_does se_X10_does in_X10 co_X10_does rfl (by decide +kernel) rfl rfl (by decide) (by decide) rfl rfl (Nat.le_of_ble_eq_true rfl) dX10_ends_17) (fun I4 h => ?_)
  refine j_aload_n G 1 0 dX10_ends_20 rfl rfl ?_
  refine j_get G hW 11 0 4 (.ref (a0 + 1)) k0 (by decide) rfl (by decide) rfl lay_X10 fl_X10_7 rfl rfl dX10_ends_21 ?_
  refine j_iload_n G 0 3 dX10_ends_24 rfl rfl ?_
  refine j_iconst G (4 : Int32) dX10_ends_25 (by decide) ?_
  refine j_iadd G dX10_ends_26 ?_
  refine j_iconst G (1 : Int32) dX10_ends_27 (by decide) ?_
  obtain ⟨b5, h⟩ := h
  refine j_iast G hW kk2 b5 dX10_ends_28 ?_
  refine j_mI (fun I6 eI6 => ?_)
  have h := h I6 eI6
  exact j_retv G I6 dX10_ends_29 h rfl
abbrev rm_X10_reason : Room := { frames := 3, cells := 0, slots := 0, locals := 66 }
def w_X10_reason_p213 (a0 : Nat) (x1 : Int32)  (I : MI)  (Q : Int32 → MI → Prop) : Prop :=
(vp_in (x1 + (170 : Int32)) 4905 ∧
(vp_in (x1 + (250 : Int32)) 4905 ∧
(vp_in (x1 + (0 : Int32)) 4905 ∧
(((I (a0 + 1) (ix (x1 + (0 : Int32)))) ≤ ((I (a0 + 1) (ix (x1 + (170 : Int32)))) - (I (a0 + 1) (ix (x1 + (250 : Int32))))) → Q (0 : Int32) I) ∧
(¬ (I (a0 + 1) (ix (x1 + (0 : Int32)))) ≤ ((I (a0 + 1) (ix (x1 + (170 : Int32)))) - (I (a0 + 1) (ix (x1 + (250 : Int32))))) → Q (7 : Int32) I)))))
set_option maxHeartbeats 4000000 in
set_option maxRecDepth 100000 in
theorem m_X10_reason_p213 {K : Kx} {l : Launch} {m : MethodId} {H0 : Heap} {Q : Int32 → MI → Prop} {w : HW} {J : MJ} {B : MR} (G : Gd l rm_X10_reason K m RX10 cX10_reason 4 H0 (some .int) (va_Qi (S := MI) Q (fun u t => HP K (u, J, B) t.heap) (AA K)) w) (hW : WFK K) (a0 : Nat) (x1 : Int32)  (ka0 : (kG K a0).1 = 12)  (I : MI)   (h : w_X10_reason_p213 a0 x1 I Q) : Jg K m 4 H0 w 213 [(0, .ref a0), (1, .int x1)] [] (I, J, B) := by
  unfold w_X10_reason_p213 at h
  refine j_aload_n G 0 0 dX10_reason_213 rfl rfl ?_
  have kk13 : kG K (a0 + 1) = (20, 4905) := wk_12_1 hW ka0
  refine j_get G hW 11 0 4 (.ref (a0 + 1)) ka0 (by decide) rfl (by decide) rfl lay_X10 fl_X10_7 rfl rfl dX10_reason_214 ?_
  refine j_iload_n G 1 1 dX10_reason_217 rfl rfl ?_
  refine j_sipush G (170 : Int32) dX10_reason_218 (by decide) ?_
  refine j_iadd G dX10_reason_221 ?_
  obtain ⟨b14, h⟩ := h
  refine j_iald G hW kk13 b14 dX10_reason_222 ?_
  refine j_aload_n G 0 0 dX10_reason_223 rfl rfl ?_
  refine j_get G hW 11 0 4 (.ref (a0 + 1)) ka0 (by decide) rfl (by decide) rfl lay_X10 fl_X10_7 rfl rfl dX10_reason_224 ?_
  refine j_iload_n G 1 1 dX10_reason_227 rfl rfl ?_
  refine j_sipush G (250 : Int32) dX10_reason_228 (by decide) ?_
  refine j_iadd G dX10_reason_231 ?_
  obtain ⟨b15, h⟩ := h
  refine j_iald G hW kk13 b15 dX10_reason_232 ?_
  refine j_isub G dX10_reason_233 ?_
  refine j_aload_n G 0 0 dX10_reason_234 rfl rfl ?_
  refine j_get G hW 11 0 4 (.ref (a0 + 1)) ka0 (by decide) rfl (by decide) rfl lay_X10 fl_X10_7 rfl rfl dX10_reason_235 ?_
  refine j_iload_n G 1 1 dX10_reason_238 rfl rfl ?_
  refine j_iconst G (0 : Int32) dX10_reason_239 (by decide) ?_
  refine j_iadd G dX10_reason_240 ?_
  obtain ⟨b16, h⟩ := h
  refine j_iald G hW kk13 b16 dX10_reason_241 ?_
  refine j_icmp_ge G 250 dX10_reason_242 (by decide) (fun c17 => ?_) (fun c17 => ?_)
  · have h := h.1 c17
    refine j_iconst G (0 : Int32) dX10_reason_250 (by decide) ?_
    exact j_reti G I rfl dX10_reason_251 h rfl
  · have h := h.2 c17
    refine j_bipush G (7 : Int32) dX10_reason_245 (by decide) ?_
    refine j_goto G 251 dX10_reason_247 (by decide) ?_
    exact j_reti G I rfl dX10_reason_251 h rfl
def w_X10_reason (a0 : Nat) (x1 : Int32) (x2 : Int32) (x3 : Int32) (I : MI) (Q : Int32 → MI → Prop) : Prop :=
((¬ x3 = (1 : Int32) → ((x3 = (7 : Int32) → (w_X10_isFull a0 x1 (1 : Int32) I (fun r3 =>
((r3 = 0 → Q (0 : Int32) I) ∧
(¬ r3 = 0 → Q (2 : Int32) I))))) ∧
(¬ x3 = (7 : Int32) → ((¬ x3 = (6 : Int32) → ((¬ x3 = (10 : Int32) → ((¬ x3 = (12 : Int32) → ((¬ x3 = (4 : Int32) → ((x3 = (3 : Int32) → (vp_in (x1 + (250 : Int32)) 4905 ∧
((¬ (I (a0 + 1) (ix (x1 + (250 : Int32)))) = (-1 : Int32) → w_X10_reason_p213 a0 x1 I Q) ∧
((I (a0 + 1) (ix (x1 + (250 : Int32)))) = (-1 : Int32) → (w_X10_cellOf a0 x1 x2 I (fun r18 =>
(w_X10_isStored a0 x1 r18 I (fun r19 =>
((r19 = 0 → (vp_in (x1 + (170 : Int32)) 4905 ∧
(vp_in (x1 + (250 : Int32)) 4905 ∧
(∀ I23, I23 = ui I (a0 + 1) (ix (x1 + (250 : Int32))) (I (a0 + 1) (ix (x1 + (170 : Int32)))) →
(w_X10_cellOf a0 x1 x2 I23 (fun r24 =>
(vp_in ((x1 + (178 : Int32)) + r24) 4905 ∧
(vp_in (x1 + (251 : Int32)) 4905 ∧
(∀ I27, I27 = ui I23 (a0 + 1) (ix (x1 + (251 : Int32))) (I23 (a0 + 1) (ix ((x1 + (178 : Int32)) + r24))) →
w_X10_reason_p213 a0 x1 I27 Q))))))))) ∧
(¬ r19 = 0 → Q (6 : Int32) I)))))))))) ∧
(¬ x3 = (3 : Int32) → Q (0 : Int32) I))) ∧
(x3 = (4 : Int32) → (w_X10_cellOf a0 x1 x2 I (fun r28 =>
(w_X10_isStored a0 x1 r28 I (fun r29 =>
((r29 = 0 → (w_X10_isFull a0 x1 (0 : Int32) I (fun r31 =>
((r31 = 0 → Q (0 : Int32) I) ∧
(¬ r31 = 0 → Q (1 : Int32) I))))) ∧
(¬ r29 = 0 → Q (6 : Int32) I))))))))) ∧
(x3 = (12 : Int32) → (w_X10_inQueue a0 x1 (5 : Int32) I (fun r33 =>
((¬ r33 = 0 → Q (0 : Int32) I) ∧
(r33 = 0 → Q (5 : Int32) I))))))) ∧
(x3 = (10 : Int32) → (w_X10_isFull a0 x1 (4 : Int32) I (fun r35 =>
((r35 = 0 → Q (0 : Int32) I) ∧
(¬ r35 = 0 → Q (4 : Int32) I))))))) ∧
(x3 = (6 : Int32) → (w_X10_isFull a0 x1 (1 : Int32) I (fun r37 =>
((r37 = 0 → Q (0 : Int32) I) ∧
(¬ r37 = 0 → Q (2 : Int32) I))))))))) ∧
(x3 = (1 : Int32) → (w_X10_isFull a0 x1 (3 : Int32) I (fun r39 =>
((r39 = 0 → Q (0 : Int32) I) ∧
(¬ r39 = 0 → Q (3 : Int32) I))))))
set_option maxHeartbeats 4000000 in
set_option maxRecDepth 100000 in
theorem c_X10_reason (K : Kx) (hW : WFK K) (l : Launch) (a0 : Nat) (x1 : Int32) (x2 : Int32) (x3 : Int32) (k0 : (kG K a0).1 = 12) (I : MI) (J : MJ) (B : MR) (Q : Int32 → MI → Prop) (h : w_X10_reason a0 x1 x2 x3 I Q) : Con K l yX10_reason (wsT yX10_reason cX10_reason 4 (some .int)) rm_X10_reason [.ref a0, .int x1, .int x2, .int x3] (I, J, B) (va_Qi (S := MI) Q (fun u t => HP K (u, J, B) t.heap) (AA K)) := by
  refine Con.ofJ RX10 rfl (by decide) (Nat.le_of_ble_eq_true rfl) (fun m H0 w G => ?_)
  unfold w_X10_reason at h
  show Jg K m 4 H0 w 0 [(0, .ref a0), (1, .int x1), (2, .int x2), (3, .int x3)] [] (I, J, B)
  refine j_iload_n G 3 3 dX10_reason_0 rfl rfl ?_
  refine j_iconst G (1 : Int32) dX10_reason_1 (by decide) ?_
  refine j_icmp_ne G 20 dX10_reason_2 (by decide) (fun c1 => ?_) (fun c1 => ?_)
  · have h := h.1 c1
    refine j_iload_n G 3 3 dX10_reason_20 rfl rfl ?_
    refine j_bipush G (7 : Int32) dX10_reason_21 (by decide) ?_
    refine j_icmp_eq G 32 dX10_reason_23 (by decide) (fun c2 => ?_) (fun c2 => ?_)
    · have h := h.1 c2
      refine j_aload_n G 0 0 dX10_reason_32 rfl rfl ?_
      refine j_iload_n G 1 1 dX10_reason_33 rfl rfl ?_
      refine j_iconst G (1 : Int32) dX10_reason_34 (by decide) ?_
      refine j_ci (rn_V G hW (ci := 11) (n := 2) (As := [.int x1, .int (1 : Int32)]) (rest := []) (c_X10_isFull K hW l a0 x1 (1 : Int32) k0 I J B _ h) k0 (by decide) rfl ml_X10_138 im_X10_isFull se_X10_isFull in_X10 co_X10_isFull rfl (by decide +kernel) rfl rfl (by decide) (by decide) rfl rfl (Nat.le_of_ble_eq_true rfl) dX10_reason_35) (fun r3 _ h => ?_)
      refine j_if_eq G 45 dX10_reason_38 (by decide) (fun c4 => ?_) (fun c4 => ?_)
      · have h := h.1 c4
        refine j_iconst G (0 : Int32) dX10_reason_45 (by decide) ?_
        exact j_reti G I rfl dX10_reason_46 h rfl
      · have h := h.2 c4
        refine j_iconst G (2 : Int32) dX10_reason_41 (by decide) ?_
        refine j_goto G 46 dX10_reason_42 (by decide) ?_
        exact j_reti G I rfl dX10_reason_46 h rfl
    · have h := h.2 c2
      refine j_iload_n G 3 3 dX10_reason_26 rfl rfl ?_
      refine j_bipush G (6 : Int32) dX10_reason_27 (by decide) ?_
      refine j_icmp_ne G 47 dX10_reason_29 (by decide) (fun c5 => ?_) (fun c5 => ?_)
      · have h := h.1 c5
        refine j_iload_n G 3 3 dX10_reason_47 rfl rfl ?_
        refine j_bipush G (10 : Int32) dX10_reason_48 (by decide) ?_
        refine j_icmp_ne G 68 dX10_reason_50 (by decide) (fun c6 => ?_) (fun c6 => ?_)
        · have h := h.1 c6
          refine j_iload_n G 3 3 dX10_reason_68 rfl rfl ?_
          refine j_bipush G (12 : Int32) dX10_reason_69 (by decide) ?_
          refine j_icmp_ne G 89 dX10_reason_71 (by decide) (fun c7 => ?_) (fun c7 => ?_)
          · have h := h.1 c7
            refine j_iload_n G 3 3 dX10_reason_89 rfl rfl ?_
            refine j_iconst G (4 : Int32) dX10_reason_90 (by decide) ?_
            refine j_icmp_ne G 128 dX10_reason_91 (by decide) (fun c8 => ?_) (fun c8 => ?_)
            · have h := h.1 c8
              refine j_iload_n G 3 3 dX10_reason_128 rfl rfl ?_
              refine j_iconst G (3 : Int32) dX10_reason_129 (by decide) ?_
              refine j_icmp_eq G 135 dX10_reason_130 (by decide) (fun c9 => ?_) (fun c9 => ?_)
              · have h := h.1 c9
                refine j_aload_n G 0 0 dX10_reason_135 rfl rfl ?_
                have kk10 : kG K (a0 + 1) = (20, 4905) := wk_12_1 hW k0
                refine j_get G hW 11 0 4 (.ref (a0 + 1)) k0 (by decide) rfl (by decide) rfl lay_X10 fl_X10_7 rfl rfl dX10_reason_136 ?_
                refine j_iload_n G 1 1 dX10_reason_139 rfl rfl ?_
                refine j_sipush G (250 : Int32) dX10_reason_140 (by decide) ?_
                refine j_iadd G dX10_reason_143 ?_
                obtain ⟨b11, h⟩ := h
                refine j_iald G hW kk10 b11 dX10_reason_144 ?_
                refine j_iconst G (-1 : Int32) dX10_reason_145 (by decide) ?_
                refine j_icmp_ne G 213 dX10_reason_146 (by decide) (fun c12 => ?_) (fun c12 => ?_)
                · have h := h.1 c12
                  exact Jg.sub [0, 1] rfl (m_X10_reason_p213 G hW a0 x1 k0 I h)
                · have h := h.2 c12
                  refine j_aload_n G 0 0 dX10_reason_149 rfl rfl ?_
                  refine j_iload_n G 1 1 dX10_reason_150 rfl rfl ?_
                  refine j_aload_n G 0 0 dX10_reason_151 rfl rfl ?_
                  refine j_iload_n G 1 1 dX10_reason_152 rfl rfl ?_
                  refine j_iload_n G 2 2 dX10_reason_153 rfl rfl ?_
                  refine j_ci (rn_V G hW (ci := 11) (n := 2) (As := [.int x1, .int x2]) (rest := [.int x1, .ref a0]) (c_X10_cellOf K hW l a0 x1 x2 k0 I J B _ h) k0 (by decide) rfl ml_X10_125 im_X10_cellOf se_X10_cellOf in_X10 co_X10_cellOf rfl (by decide +kernel) rfl rfl (by decide) (by decide) rfl rfl (Nat.le_of_ble_eq_true rfl) dX10_reason_154) (fun r18 _ h => ?_)
                  refine j_ci (rn_V G hW (ci := 11) (n := 2) (As := [.int x1, .int r18]) (rest := []) (c_X10_isStored K hW l a0 x1 r18 k0 I J B _ h) k0 (by decide) rfl ml_X10_141 im_X10_isStored se_X10_isStored in_X10 co_X10_isStored rfl (by decide +kernel) rfl rfl (by decide) (by decide) rfl rfl (Nat.le_of_ble_eq_true rfl) dX10_reason_157) (fun r19 _ h => ?_)
                  refine j_if_eq G 166 dX10_reason_160 (by decide) (fun c20 => ?_) (fun c20 => ?_)
                  · have h := h.1 c20
                    refine j_aload_n G 0 0 dX10_reason_166 rfl rfl ?_
                    refine j_get G hW 11 0 4 (.ref (a0 + 1)) k0 (by decide) rfl (by decide) rfl lay_X10 fl_X10_7 rfl rfl dX10_reason_167 ?_
                    refine j_iload_n G 1 1 dX10_reason_170 rfl rfl ?_
                    refine j_sipush G (250 : Int32) dX10_reason_171 (by decide) ?_
                    refine j_iadd G dX10_reason_174 ?_
                    refine j_aload_n G 0 0 dX10_reason_175 rfl rfl ?_
                    refine j_get G hW 11 0 4 (.ref (a0 + 1)) k0 (by decide) rfl (by decide) rfl lay_X10 fl_X10_7 rfl rfl dX10_reason_176 ?_
                    refine j_iload_n G 1 1 dX10_reason_179 rfl rfl ?_
                    refine j_sipush G (170 : Int32) dX10_reason_180 (by decide) ?_
                    refine j_iadd G dX10_reason_183 ?_
                    obtain ⟨b21, h⟩ := h
                    refine j_iald G hW kk10 b21 dX10_reason_184 ?_
                    obtain ⟨b22, h⟩ := h
                    refine j_iast G hW kk10 b22 dX10_reason_185 ?_
                    refine j_mI (fun I23 eI23 => ?_)
                    have h := h I23 eI23
                    refine j_aload_n G 0 0 dX10_reason_186 rfl rfl ?_
                    refine j_get G hW 11 0 4 (.ref (a0 + 1)) k0 (by decide) rfl (by decide) rfl lay_X10 fl_X10_7 rfl rfl dX10_reason_187 ?_
                    refine j_iload_n G 1 1 dX10_reason_190 rfl rfl ?_
                    refine j_sipush G (251 : Int32) dX10_reason_191 (by decide) ?_
                    refine j_iadd G dX10_reason_194 ?_
                    refine j_aload_n G 0 0 dX10_reason_195 rfl rfl ?_
                    refine j_get G hW 11 0 4 (.ref (a0 + 1)) k0 (by decide) rfl (by decide) rfl lay_X10 fl_X10_7 rfl rfl dX10_reason_196 ?_
                    refine j_iload_n G 1 1 dX10_reason_199 rfl rfl ?_
                    refine j_sipush G (178 : Int32) dX10_reason_200 (by decide) ?_
                    refine j_iadd G dX10_reason_203 ?_
                    refine j_aload_n G 0 0 dX10_reason_204 rfl rfl ?_
                    refine j_iload_n G 1 1 dX10_reason_205 rfl rfl ?_
                    refine j_iload_n G 2 2 dX10_reason_206 rfl rfl ?_
                    refine j_ci (rn_V G hW (ci := 11) (n := 2) (As := [.int x1, .int x2]) (rest := [.int (x1 + (178 : Int32)), .ref (a0 + 1), .int (x1 + (251 : Int32)), .ref (a0 + 1)]) (c_X10_cellOf K hW l a0 x1 x2 k0 I23 J B _ h) k0 (by decide) rfl ml_X10_125 im_X10_cellOf se_X10_cellOf in_X10 co_X10_cellOf rfl (by decide +kernel) rfl rfl (by decide) (by decide) rfl rfl (Nat.le_of_ble_eq_true rfl) dX10_reason_207) (fun r24 _ h => ?_)
                    refine j_iadd G dX10_reason_210 ?_
                    obtain ⟨b25, h⟩ := h
                    refine j_iald G hW kk10 b25 dX10_reason_211 ?_
                    obtain ⟨b26, h⟩ := h
                    refine j_iast G hW kk10 b26 dX10_reason_212 ?_
                    refine j_mI (fun I27 eI27 => ?_)
                    have h := h I27 eI27
                    exact Jg.sub [0, 1] rfl (m_X10_reason_p213 G hW a0 x1 k0 I27 h)
                  · have h := h.2 c20
                    refine j_bipush G (6 : Int32) dX10_reason_163 (by decide) ?_
                    exact j_reti G I rfl dX10_reason_165 h rfl
              · have h := h.2 c9
                refine j_iconst G (0 : Int32) dX10_reason_133 (by decide) ?_
                exact j_reti G I rfl dX10_reason_134 h rfl
            · have h := h.2 c8
              refine j_aload_n G 0 0 dX10_reason_94 rfl rfl ?_
              refine j_iload_n G 1 1 dX10_reason_95 rfl rfl ?_
              refine j_aload_n G 0 0 dX10_reason_96 rfl rfl ?_
              refine j_iload_n G 1 1 dX10_reason_97 rfl rfl ?_
              refine j_iload_n G 2 2 dX10_reason_98 rfl rfl ?_
              refine j_ci (rn_V G hW (ci := 11) (n := 2) (As := [.int x1, .int x2]) (rest := [.int x1, .ref a0]) (c_X10_cellOf K hW l a0 x1 x2 k0 I J B _ h) k0 (by decide) rfl ml_X10_125 im_X10_cellOf se_X10_cellOf in_X10 co_X10_cellOf rfl (by decide +kernel) rfl rfl (by decide) (by decide) rfl rfl (Nat.le_of_ble_eq_true rfl) dX10_reason_99) (fun r28 _ h => ?_)
              refine j_ci (rn_V G hW (ci := 11) (n := 2) (As := [.int x1, .int r28]) (rest := []) (c_X10_isStored K hW l a0 x1 r28 k0 I J B _ h) k0 (by decide) rfl ml_X10_141 im_X10_isStored se_X10_isStored in_X10 co_X10_isStored rfl (by decide +kernel) rfl rfl (by decide) (by decide) rfl rfl (Nat.le_of_ble_eq_true rfl) dX10_reason_102) (fun r29 _ h => ?_)
              refine j_if_eq G 113 dX10_reason_105 (by decide) (fun c30 => ?_) (fun c30 => ?_)
              · have h := h.1 c30
                refine j_aload_n G 0 0 dX10_reason_113 rfl rfl ?_
                refine j_iload_n G 1 1 dX10_reason_114 rfl rfl ?_
                refine j_iconst G (0 : Int32) dX10_reason_115 (by decide) ?_
                refine j_ci (rn_V G hW (ci := 11) (n := 2) (As := [.int x1, .int (0 : Int32)]) (rest := []) (c_X10_isFull K hW l a0 x1 (0 : Int32) k0 I J B _ h) k0 (by decide) rfl ml_X10_138 im_X10_isFull se_X10_isFull in_X10 co_X10_isFull rfl (by decide +kernel) rfl rfl (by decide) (by decide) rfl rfl (Nat.le_of_ble_eq_true rfl) dX10_reason_116) (fun r31 _ h => ?_)
                refine j_if_eq G 126 dX10_reason_119 (by decide) (fun c32 => ?_) (fun c32 => ?_)
                · have h := h.1 c32
                  refine j_iconst G (0 : Int32) dX10_reason_126 (by decide) ?_
                  exact j_reti G I rfl dX10_reason_127 h rfl
                · have h := h.2 c32
                  refine j_iconst G (1 : Int32) dX10_reason_122 (by decide) ?_
                  refine j_goto G 127 dX10_reason_123 (by decide) ?_
                  exact j_reti G I rfl dX10_reason_127 h rfl
              · have h := h.2 c30
                refine j_bipush G (6 : Int32) dX10_reason_108 (by decide) ?_
                refine j_goto G 127 dX10_reason_110 (by decide) ?_
                exact j_reti G I rfl dX10_reason_127 h rfl
          · have h := h.2 c7
            refine j_aload_n G 0 0 dX10_reason_74 rfl rfl ?_
            refine j_iload_n G 1 1 dX10_reason_75 rfl rfl ?_
            refine j_iconst G (5 : Int32) dX10_reason_76 (by decide) ?_
            refine j_ci (rn_V G hW (ci := 11) (n := 2) (As := [.int x1, .int (5 : Int32)]) (rest := []) (c_X10_inQueue K hW l a0 x1 (5 : Int32) k0 I J B _ h) k0 (by decide) rfl ml_X10_86 im_X10_inQueue se_X10_inQueue in_X10 co_X10_inQueue rfl (by decide +kernel) rfl rfl (by decide) (by decide) rfl rfl (Nat.le_of_ble_eq_true rfl) dX10_reason_77) (fun r33 _ h => ?_)
            refine j_if_ne G 87 dX10_reason_80 (by decide) (fun c34 => ?_) (fun c34 => ?_)
            · have h := h.1 c34
              refine j_iconst G (0 : Int32) dX10_reason_87 (by decide) ?_
              exact j_reti G I rfl dX10_reason_88 h rfl
            · have h := h.2 c34
              refine j_iconst G (5 : Int32) dX10_reason_83 (by decide) ?_
              refine j_goto G 88 dX10_reason_84 (by decide) ?_
              exact j_reti G I rfl dX10_reason_88 h rfl
        · have h := h.2 c6
          refine j_aload_n G 0 0 dX10_reason_53 rfl rfl ?_
          refine j_iload_n G 1 1 dX10_reason_54 rfl rfl ?_
          refine j_iconst G (4 : Int32) dX10_reason_55 (by decide) ?_
          refine j_ci (rn_V G hW (ci := 11) (n := 2) (As := [.int x1, .int (4 : Int32)]) (rest := []) (c_X10_isFull K hW l a0 x1 (4 : Int32) k0 I J B _ h) k0 (by decide) rfl ml_X10_138 im_X10_isFull se_X10_isFull in_X10 co_X10_isFull rfl (by decide +kernel) rfl rfl (by decide) (by decide) rfl rfl (Nat.le_of_ble_eq_true rfl) dX10_reason_56) (fun r35 _ h => ?_)
          refine j_if_eq G 66 dX10_reason_59 (by decide) (fun c36 => ?_) (fun c36 => ?_)
          · have h := h.1 c36
            refine j_iconst G (0 : Int32) dX10_reason_66 (by decide) ?_
            exact j_reti G I rfl dX10_reason_67 h rfl
          · have h := h.2 c36
            refine j_iconst G (4 : Int32) dX10_reason_62 (by decide) ?_
            refine j_goto G 67 dX10_reason_63 (by decide) ?_
            exact j_reti G I rfl dX10_reason_67 h rfl
      · have h := h.2 c5
        refine j_aload_n G 0 0 dX10_reason_32 rfl rfl ?_
        refine j_iload_n G 1 1 dX10_reason_33 rfl rfl ?_
        refine j_iconst G (1 : Int32) dX10_reason_34 (by decide) ?_
        refine j_ci (rn_V G hW (ci := 11) (n := 2) (As := [.int x1, .int (1 : Int32)]) (rest := []) (c_X10_isFull K hW l a0 x1 (1 : Int32) k0 I J B _ h) k0 (by decide) rfl ml_X10_138 im_X10_isFull se_X10_isFull in_X10 co_X10_isFull rfl (by decide +kernel) rfl rfl (by decide) (by decide) rfl rfl (Nat.le_of_ble_eq_true rfl) dX10_reason_35) (fun r37 _ h => ?_)
        refine j_if_eq G 45 dX10_reason_38 (by decide) (fun c38 => ?_) (fun c38 => ?_)
        · have h := h.1 c38
          refine j_iconst G (0 : Int32) dX10_reason_45 (by decide) ?_
          exact j_reti G I rfl dX10_reason_46 h rfl
        · have h := h.2 c38
          refine j_iconst G (2 : Int32) dX10_reason_41 (by decide) ?_
          refine j_goto G 46 dX10_reason_42 (by decide) ?_
          exact j_reti G I rfl dX10_reason_46 h rfl
  · have h := h.2 c1
    refine j_aload_n G 0 0 dX10_reason_5 rfl rfl ?_
    refine j_iload_n G 1 1 dX10_reason_6 rfl rfl ?_
    refine j_iconst G (3 : Int32) dX10_reason_7 (by decide) ?_
    refine j_ci (rn_V G hW (ci := 11) (n := 2) (As := [.int x1, .int (3 : Int32)]) (rest := []) (c_X10_isFull K hW l a0 x1 (3 : Int32) k0 I J B _ h) k0 (by decide) rfl ml_X10_138 im_X10_isFull se_X10_isFull in_X10 co_X10_isFull rfl (by decide +kernel) rfl rfl (by decide) (by decide) rfl rfl (Nat.le_of_ble_eq_true rfl) dX10_reason_8) (fun r39 _ h => ?_)
    refine j_if_eq G 18 dX10_reason_11 (by decide) (fun c40 => ?_) (fun c40 => ?_)
    · have h := h.1 c40
      refine j_iconst G (0 : Int32) dX10_reason_18 (by decide) ?_
      exact j_reti G I rfl dX10_reason_19 h rfl
    · have h := h.2 c40
      refine j_iconst G (3 : Int32) dX10_reason_14 (by decide) ?_
      refine j_goto G 19 dX10_reason_15 (by decide) ?_
      exact j_reti G I rfl dX10_reason_19 h rfl
abbrev rm_X10_reckoned : Room := { frames := 2, cells := 0, slots := 0, locals := 45 }
def w_X10_reckoned (a0 : Nat) (x1 : Int32) (x2 : Int32) (I : MI) (Q : Int32 →  Prop) : Prop :=
(w_X10_opOf a0 x1 x2 I (fun r1 =>
((¬ r1 = 0 → (w_X10_opOf a0 x1 x2 I (fun r3 =>
(w_X10_of a0 x1 x2 (2 : Int32) I (fun r4 =>
(w_X10_reg a0 x1 r4 I (fun r5 =>
(w_X10_of a0 x1 x2 (3 : Int32) I (fun r6 =>
(w_X10_reg a0 x1 r6 I (fun r7 =>
(w_X10_reckons a0 r3 r5 r7 (fun r8 =>
Q r8))))))))))))) ∧
(r1 = 0 → (w_X10_of a0 x1 x2 (4 : Int32) I (fun r9 =>
Q r9))))))
set_option maxHeartbeats 4000000 in
set_option maxRecDepth 100000 in
theorem c_X10_reckoned (K : Kx) (hW : WFK K) (l : Launch) (a0 : Nat) (x1 : Int32) (x2 : Int32) (k0 : (kG K a0).1 = 12) (I : MI) (J : MJ) (B : MR) (Q : Int32 →  Prop) (h : w_X10_reckoned a0 x1 x2 I Q) : Con K l yX10_reckoned (wsT yX10_reckoned cX10_reckoned 3 (some .int)) rm_X10_reckoned [.ref a0, .int x1, .int x2] (I, J, B) (va_Qi (S := Unit) (fun r _ => Q r) (fun u t => HP K (I, J, B) t.heap) (AA K)) := by
  refine Con.ofJ RX10 rfl (by decide) (Nat.le_of_ble_eq_true rfl) (fun m H0 w G => ?_)
  unfold w_X10_reckoned at h
  show Jg K m 3 H0 w 0 [(0, .ref a0), (1, .int x1), (2, .int x2)] [] (I, J, B)
  refine j_aload_n G 0 0 dX10_reckoned_0 rfl rfl ?_
  refine j_iload_n G 1 1 dX10_reckoned_1 rfl rfl ?_
  refine j_iload_n G 2 2 dX10_reckoned_2 rfl rfl ?_
  refine j_ci (rn_V G hW (ci := 11) (n := 2) (As := [.int x1, .int x2]) (rest := []) (c_X10_opOf K hW l a0 x1 x2 k0 I J B _ h) k0 (by decide) rfl ml_X10_58 im_X10_opOf se_X10_opOf in_X10 co_X10_opOf rfl (by decide +kernel) rfl rfl (by decide) (by decide) rfl rfl (Nat.le_of_ble_eq_true rfl) dX10_reckoned_3) (fun r1 _ h => ?_)
  refine j_if_ne G 19 dX10_reckoned_6 (by decide) (fun c2 => ?_) (fun c2 => ?_)
  · have h := h.1 c2
    refine j_aload_n G 0 0 dX10_reckoned_19 rfl rfl ?_
    refine j_aload_n G 0 0 dX10_reckoned_20 rfl rfl ?_
    refine j_iload_n G 1 1 dX10_reckoned_21 rfl rfl ?_
    refine j_iload_n G 2 2 dX10_reckoned_22 rfl rfl ?_
    refine j_ci (rn_V G hW (ci := 11) (n := 2) (As := [.int x1, .int x2]) (rest := [.ref a0]) (c_X10_opOf K hW l a0 x1 x2 k0 I J B _ h) k0 (by decide) rfl ml_X10_58 im_X10_opOf se_X10_opOf in_X10 co_X10_opOf rfl (by decide +kernel) rfl rfl (by decide) (by decide) rfl rfl (Nat.le_of_ble_eq_true rfl) dX10_reckoned_23) (fun r3 _ h => ?_)
    refine j_aload_n G 0 0 dX10_reckoned_26 rfl rfl ?_
    refine j_iload_n G 1 1 dX10_reckoned_27 rfl rfl ?_
    refine j_aload_n G 0 0 dX10_reckoned_28 rfl rfl ?_
    refine j_iload_n G 1 1 dX10_reckoned_29 rfl rfl ?_
    refine j_iload_n G 2 2 dX10_reckoned_30 rfl rfl ?_
    refine j_iconst G (2 : Int32) dX10_reckoned_31 (by decide) ?_
    refine j_ci (rn_V G hW (ci := 11) (n := 3) (As := [.int x1, .int x2, .int (2 : Int32)]) (rest := [.int x1, .ref a0, .int r3, .ref a0]) (c_X10_of K hW l a0 x1 x2 (2 : Int32) k0 I J B _ h) k0 (by decide) rfl ml_X10_54 im_X10_of se_X10_of in_X10 co_X10_of rfl (by decide +kernel) rfl rfl (by decide) (by decide) rfl rfl (Nat.le_of_ble_eq_true rfl) dX10_reckoned_32) (fun r4 _ h => ?_)
    refine j_ci (rn_V G hW (ci := 11) (n := 2) (As := [.int x1, .int r4]) (rest := [.int r3, .ref a0]) (c_X10_reg K hW l a0 x1 r4 k0 I J B _ h) k0 (by decide) rfl ml_X10_92 im_X10_reg se_X10_reg in_X10 co_X10_reg rfl (by decide +kernel) rfl rfl (by decide) (by decide) rfl rfl (Nat.le_of_ble_eq_true rfl) dX10_reckoned_35) (fun r5 _ h => ?_)
    refine j_aload_n G 0 0 dX10_reckoned_38 rfl rfl ?_
    refine j_iload_n G 1 1 dX10_reckoned_39 rfl rfl ?_
    refine j_aload_n G 0 0 dX10_reckoned_40 rfl rfl ?_
    refine j_iload_n G 1 1 dX10_reckoned_41 rfl rfl ?_
    refine j_iload_n G 2 2 dX10_reckoned_42 rfl rfl ?_
    refine j_iconst G (3 : Int32) dX10_reckoned_43 (by decide) ?_
    refine j_ci (rn_V G hW (ci := 11) (n := 3) (As := [.int x1, .int x2, .int (3 : Int32)]) (rest := [.int x1, .ref a0, .int r5, .int r3, .ref a0]) (c_X10_of K hW l a0 x1 x2 (3 : Int32) k0 I J B _ h) k0 (by decide) rfl ml_X10_54 im_X10_of se_X10_of in_X10 co_X10_of rfl (by decide +kernel) rfl rfl (by decide) (by decide) rfl rfl (Nat.le_of_ble_eq_true rfl) dX10_reckoned_44) (fun r6 _ h => ?_)
    refine j_ci (rn_V G hW (ci := 11) (n := 2) (As := [.int x1, .int r6]) (rest := [.int r5, .int r3, .ref a0]) (c_X10_reg K hW l a0 x1 r6 k0 I J B _ h) k0 (by decide) rfl ml_X10_92 im_X10_reg se_X10_reg in_X10 co_X10_reg rfl (by decide +kernel) rfl rfl (by decide) (by decide) rfl rfl (Nat.le_of_ble_eq_true rfl) dX10_reckoned_47) (fun r7 _ h => ?_)
    refine j_ci (rn_V G hW (ci := 11) (n := 3) (As := [.int r3, .int r5, .int r7]) (rest := []) (c_X10_reckons K hW l a0 r3 r5 r7 k0 I J B _ h) k0 (by decide) rfl ml_X10_135 im_X10_reckons se_X10_reckons in_X10 co_X10_reckons rfl (by decide +kernel) rfl rfl (by decide) (by decide) rfl rfl (Nat.le_of_ble_eq_true rfl) dX10_reckoned_50) (fun r8 _ h => ?_)
    exact j_reti G () rfl dX10_reckoned_53 h rfl
  · have h := h.2 c2
    refine j_aload_n G 0 0 dX10_reckoned_9 rfl rfl ?_
    refine j_iload_n G 1 1 dX10_reckoned_10 rfl rfl ?_
    refine j_iload_n G 2 2 dX10_reckoned_11 rfl rfl ?_
    refine j_iconst G (4 : Int32) dX10_reckoned_12 (by decide) ?_
    refine j_ci (rn_V G hW (ci := 11) (n := 3) (As := [.int x1, .int x2, .int (4 : Int32)]) (rest := []) (c_X10_of K hW l a0 x1 x2 (4 : Int32) k0 I J B _ h) k0 (by decide) rfl ml_X10_54 im_X10_of se_X10_of in_X10 co_X10_of rfl (by decide +kernel) rfl rfl (by decide) (by decide) rfl rfl (Nat.le_of_ble_eq_true rfl) dX10_reckoned_13) (fun r9 _ h => ?_)
    refine j_goto G 53 dX10_reckoned_16 (by decide) ?_
    exact j_reti G () rfl dX10_reckoned_53 h rfl
abbrev rm_X10_runs : Room := { frames := 6, cells := 0, slots := 0, locals := 145 }
def w_X10_runs_p422 (a0 : Nat) (x1 : Int32) (x7 : Int32)  (I : MI)  (Q : MI → Prop) : Prop :=
(w_X10_does a0 x1 (0 : Int32) x7 I (fun I15 =>
Q I15))
set_option maxHeartbeats 4000000 in
set_option maxRecDepth 100000 in
theorem m_X10_runs_p422 {K : Kx} {l : Launch} {m : MethodId} {H0 : Heap} {Q : MI → Prop} {w : HW} {J : MJ} {B : MR} (G : Gd l rm_X10_runs K m RX10 cX10_runs 9 H0 none (va_Qv (S := MI) Q (fun u t => HP K (u, J, B) t.heap) (AA K)) w) (hW : WFK K) (a0 : Nat) (x1 : Int32) (x7 : Int32)  (ka0 : (kG K a0).1 = 12)  (I : MI)   (h : w_X10_runs_p422 a0 x1 x7 I Q) : Jg K m 9 H0 w 422 [(0, .ref a0), (1, .int x1), (7, .int x7)] [] (I, J, B) := by
  unfold w_X10_runs_p422 at h
  refine j_aload_n G 0 0 dX10_runs_422 rfl rfl ?_
  refine j_iload_n G 1 1 dX10_runs_423 rfl rfl ?_
  refine j_iconst G (0 : Int32) dX10_runs_424 (by decide) ?_
  refine j_iload G 2 dX10_runs_425 rfl ?_
  refine j_cv (rn_V G hW (ci := 11) (n := 3) (As := [.int x1, .int (0 : Int32), .int x7]) (rest := []) (c_X10_does K hW l a0 x1 (0 : Int32) x7 ka0 I J B _ h) ka0 (by decide) rfl ml_X10_104 im_X10_does se_X10_does in_X10 co_X10_does rfl (by decide +kernel) rfl rfl (by decide) (by decide) rfl rfl (Nat.le_of_ble_eq_true rfl) dX10_runs_427) (fun I15 h => ?_)
  exact j_retv G I15 dX10_runs_430 h rfl
def w_X10_runs_p361 (a0 : Nat) (x1 : Int32) (x3 : Int32) (x7 : Int32) (x8 : Int32) (s0 : Int32) (s1 : Int32) (s2 : Int32) (o3 : Nat) (I : MI)  (Q : MI → Prop) : Prop :=
(w_X10_pushes o3 s2 s1 s0 (0 : Int32) (0 : Int32) I (fun I40 =>
((x8 = 0 → w_X10_runs_p422 a0 x1 x7 I40 Q) ∧
(¬ x8 = 0 → (w_X10_of a0 x1 x3 (4 : Int32) I40 (fun r42 =>
w_X10_runs_p422 a0 x1 r42 I40 Q))))))
set_option maxHeartbeats 4000000 in
set_option maxRecDepth 100000 in
theorem m_X10_runs_p361 {K : Kx} {l : Launch} {m : MethodId} {H0 : Heap} {Q : MI → Prop} {w : HW} {J : MJ} {B : MR} (G : Gd l rm_X10_runs K m RX10 cX10_runs 9 H0 none (va_Qv (S := MI) Q (fun u t => HP K (u, J, B) t.heap) (AA K)) w) (hW : WFK K) (a0 : Nat) (x1 : Int32) (x3 : Int32) (x7 : Int32) (x8 : Int32) (s0 : Int32) (s1 : Int32) (s2 : Int32) (o3 : Nat) (ka0 : (kG K a0).1 = 12) (ko3 : (kG K o3).1 = 12) (I : MI)   (h : w_X10_runs_p361 a0 x1 x3 x7 x8 s0 s1 s2 o3 I Q) : Jg K m 9 H0 w 361 [(0, .ref a0), (1, .int x1), (3, .int x3), (7, .int x7), (8, .int x8)] [.int s0, .int s1, .int s2, .ref o3] (I, J, B) := by
  unfold w_X10_runs_p361 at h
  refine j_iconst G (0 : Int32) dX10_runs_361 (by decide) ?_
  refine j_iconst G (0 : Int32) dX10_runs_362 (by decide) ?_
  refine j_cv (rn_V G hW (ci := 11) (n := 5) (As := [.int s2, .int s1, .int s0, .int (0 : Int32), .int (0 : Int32)]) (rest := []) (c_X10_pushes K hW l o3 s2 s1 s0 (0 : Int32) (0 : Int32) ko3 I J B _ h) ko3 (by decide) rfl ml_X10_118 im_X10_pushes se_X10_pushes in_X10 co_X10_pushes rfl (by decide +kernel) rfl rfl (by decide) (by decide) rfl rfl (Nat.le_of_ble_eq_true rfl) dX10_runs_363) (fun I40 h => ?_)
  refine j_iload G 4 dX10_runs_366 rfl ?_
  refine j_if_eq G 381 dX10_runs_368 (by decide) (fun c41 => ?_) (fun c41 => ?_)
  · have h := h.1 c41
    refine j_iload G 3 dX10_runs_381 rfl ?_
    refine j_istore G [(7, .int x7), (0, .ref a0), (1, .int x1), (3, .int x3), (8, .int x8)] dX10_runs_383 (by decide) rfl ?_
    refine j_goto G 422 dX10_runs_385 (by decide) ?_
    exact Jg.sub [1, 2, 0] rfl (m_X10_runs_p422 G hW a0 x1 x7 ka0 I40 h)
  · have h := h.2 c41
    refine j_aload_n G 0 0 dX10_runs_371 rfl rfl ?_
    refine j_iload_n G 1 1 dX10_runs_372 rfl rfl ?_
    refine j_iload_n G 2 3 dX10_runs_373 rfl rfl ?_
    refine j_iconst G (4 : Int32) dX10_runs_374 (by decide) ?_
    refine j_ci (rn_V G hW (ci := 11) (n := 3) (As := [.int x1, .int x3, .int (4 : Int32)]) (rest := []) (c_X10_of K hW l a0 x1 x3 (4 : Int32) ka0 I40 J B _ h) ka0 (by decide) rfl ml_X10_54 im_X10_of se_X10_of in_X10 co_X10_of rfl (by decide +kernel) rfl rfl (by decide) (by decide) rfl rfl (Nat.le_of_ble_eq_true rfl) dX10_runs_375) (fun r42 _ h => ?_)
    refine j_goto G 383 dX10_runs_378 (by decide) ?_
    refine j_istore G [(7, .int r42), (0, .ref a0), (1, .int x1), (3, .int x3), (8, .int x8)] dX10_runs_383 (by decide) rfl ?_
    refine j_goto G 422 dX10_runs_385 (by decide) ?_
    exact Jg.sub [1, 2, 0] rfl (m_X10_runs_p422 G hW a0 x1 r42 ka0 I40 h)
def w_X10_runs (a0 : Nat) (x1 : Int32) (I : MI) (Q : MI → Prop) : Prop :=
(w_X10_sideAt x1 (0 : Int32) (fun r1 =>
(w_X10_passes a0 x1 (0 : Int32) I (fun I2 =>
(vp_in (r1 + (0 : Int32)) 4905 ∧
(∀ x3_5, x3_5 = I2 (a0 + 1) (ix (r1 + (0 : Int32))) →
(vp_in (r1 + (1 : Int32)) 4905 ∧
(w_X10_deed a0 x1 (0 : Int32) x3_5 (I2 (a0 + 1) (ix (r1 + (1 : Int32)))) I2 (fun r7 =>
(w_X10_reason a0 x1 x3_5 (r7 - r7 / (16 : Int32) * (16 : Int32)) I2 (fun r8 I9 =>
((r8 ≤ 0 → (w_X10_of a0 x1 x3_5 (1 : Int32) I9 (fun r11 =>
(∀ x7_12, x7_12 = x3_5 + (1 : Int32) →
(((r7 - r7 / (16 : Int32) * (16 : Int32)) = (1 : Int32) → (w_X10_reg a0 x1 (r7 / (16 : Int32)) I9 (fun r13 =>
(w_X10_pushes a0 x1 (3 : Int32) r13 (0 : Int32) (0 : Int32) I9 (fun I14 =>
w_X10_runs_p422 a0 x1 x7_12 I14 Q))))) ∧
((r7 - r7 / (16 : Int32) * (16 : Int32)) = (2 : Int32) → (w_X10_reckoned a0 x1 x3_5 I9 (fun r16 =>
(vp_in ((x1 + (210 : Int32)) + r11) 4905 ∧
(∀ I18, I18 = ui I9 (a0 + 1) (ix ((x1 + (210 : Int32)) + r11)) r16 →
w_X10_runs_p422 a0 x1 x7_12 I18 Q))))) ∧
((r7 - r7 / (16 : Int32) * (16 : Int32)) = (3 : Int32) → (vp_in (x1 + (251 : Int32)) 4905 ∧
(vp_in ((x1 + (210 : Int32)) + r11) 4905 ∧
(∀ I21, I21 = ui I9 (a0 + 1) (ix ((x1 + (210 : Int32)) + r11)) (I9 (a0 + 1) (ix (x1 + (251 : Int32)))) →
(vp_in (x1 + (250 : Int32)) 4905 ∧
(∀ I23, I23 = ui I21 (a0 + 1) (ix (x1 + (250 : Int32))) (-1 : Int32) →
w_X10_runs_p422 a0 x1 x7_12 I23 Q)))))) ∧
((r7 - r7 / (16 : Int32) * (16 : Int32)) = (4 : Int32) → (w_X10_cellOf a0 x1 x3_5 I9 (fun r24 =>
(vp_in ((x1 + (178 : Int32)) + r24) 4905 ∧
(vp_in (x1 + (170 : Int32)) 4905 ∧
(w_X10_pushes a0 x1 (0 : Int32) (I9 (a0 + 1) (ix ((x1 + (178 : Int32)) + r24))) (I9 (a0 + 1) (ix (x1 + (170 : Int32)))) (0 : Int32) I9 (fun I27 =>
w_X10_runs_p422 a0 x1 x7_12 I27 Q))))))) ∧
((r7 - r7 / (16 : Int32) * (16 : Int32)) = (6 : Int32) → (w_X10_cellOf a0 x1 x3_5 I9 (fun r28 =>
(w_X10_reg a0 x1 r11 I9 (fun r29 =>
(w_X10_pushes a0 x1 (1 : Int32) r28 (1 : Int32) r29 I9 (fun I30 =>
w_X10_runs_p422 a0 x1 x7_12 I30 Q))))))) ∧
((r7 - r7 / (16 : Int32) * (16 : Int32)) = (7 : Int32) → (w_X10_cellOf a0 x1 x3_5 I9 (fun r31 =>
(w_X10_pushes a0 x1 (1 : Int32) r31 (0 : Int32) (0 : Int32) I9 (fun I32 =>
w_X10_runs_p422 a0 x1 x7_12 I32 Q))))) ∧
((r7 - r7 / (16 : Int32) * (16 : Int32)) = (9 : Int32) → (w_X10_of a0 x1 x3_5 (4 : Int32) I9 (fun r33 =>
w_X10_runs_p422 a0 x1 r33 I9 Q))) ∧
((r7 - r7 / (16 : Int32) * (16 : Int32)) = (10 : Int32) → (w_X10_of a0 x1 x3_5 (3 : Int32) I9 (fun r34 =>
(w_X10_reg a0 x1 r11 I9 (fun r35 =>
(w_X10_of a0 x1 x3_5 (2 : Int32) I9 (fun r36 =>
(w_X10_reg a0 x1 r36 I9 (fun r37 =>
(w_X10_holds r34 r35 r37 (fun r38 =>
((r38 = 0 → w_X10_runs_p361 a0 x1 x3_5 x7_12 r38 (0 : Int32) (4 : Int32) x1 a0 I9 Q) ∧
(¬ r38 = 0 → w_X10_runs_p361 a0 x1 x3_5 x7_12 r38 (1 : Int32) (4 : Int32) x1 a0 I9 Q))))))))))))) ∧
((r7 - r7 / (16 : Int32) * (16 : Int32)) = (12 : Int32) → (w_X10_takes a0 x1 (5 : Int32) I9 (fun r43 I44 =>
((¬ r43 = (1 : Int32) → w_X10_runs_p422 a0 x1 x7_12 I44 Q) ∧
(r43 = (1 : Int32) → (w_X10_of a0 x1 x3_5 (4 : Int32) I44 (fun r46 =>
w_X10_runs_p422 a0 x1 r46 I44 Q))))))) ∧
(¬ (r7 - r7 / (16 : Int32) * (16 : Int32)) = (1 : Int32) → ¬ (r7 - r7 / (16 : Int32) * (16 : Int32)) = (2 : Int32) → ¬ (r7 - r7 / (16 : Int32) * (16 : Int32)) = (3 : Int32) → ¬ (r7 - r7 / (16 : Int32) * (16 : Int32)) = (4 : Int32) → ¬ (r7 - r7 / (16 : Int32) * (16 : Int32)) = (6 : Int32) → ¬ (r7 - r7 / (16 : Int32) * (16 : Int32)) = (7 : Int32) → ¬ (r7 - r7 / (16 : Int32) * (16 : Int32)) = (9 : Int32) → ¬ (r7 - r7 / (16 : Int32) * (16 : Int32)) = (10 : Int32) → ¬ (r7 - r7 / (16 : Int32) * (16 : Int32)) = (12 : Int32) → (w_X10_ends a0 x1 (0 : Int32) I9 (fun I47 =>
Q I47)))))))) ∧
(¬ r8 ≤ 0 → (w_X10_waits a0 x1 (0 : Int32) r8 I9 (fun I60 =>
Q I60)))))))))))))))
set_option maxHeartbeats 4000000 in
set_option maxRecDepth 100000 in
theorem c_X10_runs (K : Kx) (hW : WFK K) (l : Launch) (a0 : Nat) (x1 : Int32) (k0 : (kG K a0).1 = 12) (I : MI) (J : MJ) (B : MR) (Q : MI → Prop) (h : w_X10_runs a0 x1 I Q) : Con K l yX10_runs (wsT yX10_runs cX10_runs 9 none) rm_X10_runs [.ref a0, .int x1] (I, J, B) (va_Qv (S := MI) Q (fun u t => HP K (u, J, B) t.heap) (AA K)) := by
  refine Con.ofJ RX10 rfl (by decide) (Nat.le_of_ble_eq_true rfl) (fun m H0 w G => ?_)
  unfold w_X10_runs at h
  show Jg K m 9 H0 w 0 [(0, .ref a0), (1, .int x1)] [] (I, J, B)
  refine j_iload_n G 1 1 dX10_runs_0 rfl rfl ?_
  refine j_iconst G (0 : Int32) dX10_runs_1 (by decide) ?_
  refine j_ci (rn_S G (n := 2) (As := [.int x1, .int (0 : Int32)]) (rest := []) (c_X10_sideAt K hW l x1 (0 : Int32) I J B _ h) ml_X10_98 st_X10_sideAt in_X10 co_X10_sideAt (by decide +kernel) rfl rfl (by decide) (by decide) rfl rfl (Nat.le_of_ble_eq_true rfl) dX10_runs_2) (fun r1 _ h => ?_)
  refine j_istore_n G 2 [(2, .int r1), (0, .ref a0), (1, .int x1)] dX10_runs_5 rfl (by decide) rfl ?_
  refine j_aload_n G 1 0 dX10_runs_6 rfl rfl ?_
  refine j_iload_n G 2 1 dX10_runs_7 rfl rfl ?_
  refine j_iconst G (0 : Int32) dX10_runs_8 (by decide) ?_
  refine j_cv (rn_V G hW (ci := 11) (n := 2) (As := [.int x1, .int (0 : Int32)]) (rest := []) (c_X10_passes K hW l a0 x1 (0 : Int32) k0 I J B _ h) k0 (by decide) rfl ml_X10_108 im_X10_passes se_X10_passes in_X10 co_X10_passes rfl (by decide +kernel) rfl rfl (by decide) (by decide) rfl rfl (Nat.le_of_ble_eq_true rfl) dX10_runs_9) (fun I2 h => ?_)
  refine j_aload_n G 1 0 dX10_runs_12 rfl rfl ?_
  have kk3 : kG K (a0 + 1) = (20, 4905) := wk_12_1 hW k0
  refine j_get G hW 11 0 4 (.ref (a0 + 1)) k0 (by decide) rfl (by decide) rfl lay_X10 fl_X10_7 rfl rfl dX10_runs_13 ?_
  refine j_iload_n G 0 2 dX10_runs_16 rfl rfl ?_
  refine j_iconst G (0 : Int32) dX10_runs_17 (by decide) ?_
  refine j_iadd G dX10_runs_18 ?_
  obtain ⟨b4, h⟩ := h
  refine j_iald G hW kk3 b4 dX10_runs_19 ?_
  refine j_nm (fun x3_5 ex3_5 => ?_)
  have h := h x3_5 ex3_5
  refine j_istore_n G 3 [(3, .int x3_5), (2, .int r1), (0, .ref a0), (1, .int x1)] dX10_runs_20 rfl (by decide) rfl ?_
  refine j_aload_n G 2 0 dX10_runs_21 rfl rfl ?_
  refine j_iload_n G 3 1 dX10_runs_22 rfl rfl ?_
  refine j_iconst G (0 : Int32) dX10_runs_23 (by decide) ?_
  refine j_iload_n G 0 3 dX10_runs_24 rfl rfl ?_
  refine j_aload_n G 2 0 dX10_runs_25 rfl rfl ?_
  refine j_get G hW 11 0 4 (.ref (a0 + 1)) k0 (by decide) rfl (by decide) rfl lay_X10 fl_X10_7 rfl rfl dX10_runs_26 ?_
  refine j_iload_n G 1 2 dX10_runs_29 rfl rfl ?_
  refine j_iconst G (1 : Int32) dX10_runs_30 (by decide) ?_
  refine j_iadd G dX10_runs_31 ?_
  obtain ⟨b6, h⟩ := h
  refine j_iald G hW kk3 b6 dX10_runs_32 ?_
  refine j_ci (rn_V G hW (ci := 11) (n := 4) (As := [.int x1, .int (0 : Int32), .int x3_5, .int (I2 (a0 + 1) (ix (r1 + (1 : Int32))))]) (rest := []) (c_X10_deed K hW l a0 x1 (0 : Int32) x3_5 (I2 (a0 + 1) (ix (r1 + (1 : Int32)))) k0 I2 J B _ h) k0 (by decide) rfl ml_X10_80 im_X10_deed se_X10_deed in_X10 co_X10_deed rfl (by decide +kernel) rfl rfl (by decide) (by decide) rfl rfl (Nat.le_of_ble_eq_true rfl) dX10_runs_33) (fun r7 _ h => ?_)
  refine j_istore G [(4, .int r7), (3, .int x3_5), (2, .int r1), (0, .ref a0), (1, .int x1)] dX10_runs_36 (by decide) rfl ?_
  refine j_aload_n G 3 0 dX10_runs_38 rfl rfl ?_
  refine j_iload_n G 4 1 dX10_runs_39 rfl rfl ?_
  refine j_iload_n G 1 3 dX10_runs_40 rfl rfl ?_
  refine j_iload G 0 dX10_runs_41 rfl ?_
  refine j_bipush G (16 : Int32) dX10_runs_43 (by decide) ?_
  refine j_irem G (by decide) dX10_runs_45 ?_
  refine j_ci (rn_V G hW (ci := 11) (n := 3) (As := [.int x1, .int x3_5, .int (r7 - r7 / (16 : Int32) * (16 : Int32))]) (rest := []) (c_X10_reason K hW l a0 x1 x3_5 (r7 - r7 / (16 : Int32) * (16 : Int32)) k0 I2 J B _ h) k0 (by decide) rfl ml_X10_112 im_X10_reason se_X10_reason in_X10 co_X10_reason rfl (by decide +kernel) rfl rfl (by decide) (by decide) rfl rfl (Nat.le_of_ble_eq_true rfl) dX10_runs_46) (fun r8 I9 h => ?_)
  refine j_istore G [(5, .int r8), (4, .int r7), (3, .int x3_5), (2, .int r1), (0, .ref a0), (1, .int x1)] dX10_runs_49 (by decide) rfl ?_
  refine j_iload G 0 dX10_runs_51 rfl ?_
  refine j_if_le G 65 dX10_runs_53 (by decide) (fun c10 => ?_) (fun c10 => ?_)
  · have h := h.1 c10
    refine j_aload_n G 4 0 dX10_runs_65 rfl rfl ?_
    refine j_iload_n G 5 1 dX10_runs_66 rfl rfl ?_
    refine j_iload_n G 2 3 dX10_runs_67 rfl rfl ?_
    refine j_iconst G (1 : Int32) dX10_runs_68 (by decide) ?_
    refine j_ci (rn_V G hW (ci := 11) (n := 3) (As := [.int x1, .int x3_5, .int (1 : Int32)]) (rest := []) (c_X10_of K hW l a0 x1 x3_5 (1 : Int32) k0 I9 J B _ h) k0 (by decide) rfl ml_X10_54 im_X10_of se_X10_of in_X10 co_X10_of rfl (by decide +kernel) rfl rfl (by decide) (by decide) rfl rfl (Nat.le_of_ble_eq_true rfl) dX10_runs_69) (fun r11 _ h => ?_)
    refine j_istore G [(6, .int r11), (5, .int r8), (4, .int r7), (3, .int x3_5), (2, .int r1), (0, .ref a0), (1, .int x1)] dX10_runs_72 (by decide) rfl ?_
    refine j_iload_n G 3 3 dX10_runs_74 rfl rfl ?_
    refine j_iconst G (1 : Int32) dX10_runs_75 (by decide) ?_
    refine j_iadd G dX10_runs_76 ?_
    refine j_nm (fun x7_12 ex7_12 => ?_)
    have h := h x7_12 ex7_12
    refine j_istore G [(7, .int x7_12), (6, .int r11), (5, .int r8), (4, .int r7), (3, .int x3_5), (2, .int r1), (0, .ref a0), (1, .int x1)] dX10_runs_77 (by decide) rfl ?_
    refine j_iload G 3 dX10_runs_79 rfl ?_
    refine j_bipush G (16 : Int32) dX10_runs_81 (by decide) ?_
    refine j_irem G (by decide) dX10_runs_83 ?_
    by_cases c48 : (r7 - r7 / (16 : Int32) * (16 : Int32)) = (1 : Int32)
    · have h := h.1 (c48)
      refine j_tableIn G 148 dX10_runs_84 (by rw [c48]; decide) (by rw [c48]; decide) (by rw [c48] <;> rfl) (by decide) ?_
      refine j_aload_n G 6 0 dX10_runs_148 rfl rfl ?_
      refine j_iload_n G 7 1 dX10_runs_149 rfl rfl ?_
      refine j_iconst G (3 : Int32) dX10_runs_150 (by decide) ?_
      refine j_aload_n G 6 0 dX10_runs_151 rfl rfl ?_
      refine j_iload_n G 7 1 dX10_runs_152 rfl rfl ?_
      refine j_iload G 3 dX10_runs_153 rfl ?_
      refine j_bipush G (16 : Int32) dX10_runs_155 (by decide) ?_
      refine j_idiv G (by decide) dX10_runs_157 ?_
      refine j_ci (rn_V G hW (ci := 11) (n := 2) (As := [.int x1, .int (r7 / (16 : Int32))]) (rest := [.int (3 : Int32), .int x1, .ref a0]) (c_X10_reg K hW l a0 x1 (r7 / (16 : Int32)) k0 I9 J B _ h) k0 (by decide) rfl ml_X10_92 im_X10_reg se_X10_reg in_X10 co_X10_reg rfl (by decide +kernel) rfl rfl (by decide) (by decide) rfl rfl (Nat.le_of_ble_eq_true rfl) dX10_runs_158) (fun r13 _ h => ?_)
      refine j_iconst G (0 : Int32) dX10_runs_161 (by decide) ?_
      refine j_iconst G (0 : Int32) dX10_runs_162 (by decide) ?_
      refine j_cv (rn_V G hW (ci := 11) (n := 5) (As := [.int x1, .int (3 : Int32), .int r13, .int (0 : Int32), .int (0 : Int32)]) (rest := []) (c_X10_pushes K hW l a0 x1 (3 : Int32) r13 (0 : Int32) (0 : Int32) k0 I9 J B _ h) k0 (by decide) rfl ml_X10_118 im_X10_pushes se_X10_pushes in_X10 co_X10_pushes rfl (by decide +kernel) rfl rfl (by decide) (by decide) rfl rfl (Nat.le_of_ble_eq_true rfl) dX10_runs_163) (fun I14 h => ?_)
      refine j_goto G 422 dX10_runs_166 (by decide) ?_
      exact Jg.sub [6, 7, 0] rfl (m_X10_runs_p422 G hW a0 x1 x7_12 k0 I14 h)
    · skip
      by_cases c49 : (r7 - r7 / (16 : Int32) * (16 : Int32)) = (2 : Int32)
      · have h := h.2.1 (c49)
        refine j_tableIn G 169 dX10_runs_84 (by rw [c49]; decide) (by rw [c49]; decide) (by rw [c49] <;> rfl) (by decide) ?_
        refine j_aload_n G 6 0 dX10_runs_169 rfl rfl ?_
        refine j_get G hW 11 0 4 (.ref (a0 + 1)) k0 (by decide) rfl (by decide) rfl lay_X10 fl_X10_7 rfl rfl dX10_runs_170 ?_
        refine j_iload_n G 7 1 dX10_runs_173 rfl rfl ?_
        refine j_sipush G (210 : Int32) dX10_runs_174 (by decide) ?_
        refine j_iadd G dX10_runs_177 ?_
        refine j_iload G 1 dX10_runs_178 rfl ?_
        refine j_iadd G dX10_runs_180 ?_
        refine j_aload_n G 6 0 dX10_runs_181 rfl rfl ?_
        refine j_iload_n G 7 1 dX10_runs_182 rfl rfl ?_
        refine j_iload_n G 4 3 dX10_runs_183 rfl rfl ?_
        refine j_ci (rn_V G hW (ci := 11) (n := 2) (As := [.int x1, .int x3_5]) (rest := [.int ((x1 + (210 : Int32)) + r11), .ref (a0 + 1)]) (c_X10_reckoned K hW l a0 x1 x3_5 k0 I9 J B _ h) k0 (by decide) rfl ml_X10_122 im_X10_reckoned se_X10_reckoned in_X10 co_X10_reckoned rfl (by decide +kernel) rfl rfl (by decide) (by decide) rfl rfl (Nat.le_of_ble_eq_true rfl) dX10_runs_184) (fun r16 _ h => ?_)
        obtain ⟨b17, h⟩ := h
        refine j_iast G hW kk3 b17 dX10_runs_187 ?_
        refine j_mI (fun I18 eI18 => ?_)
        have h := h I18 eI18
        refine j_goto G 422 dX10_runs_188 (by decide) ?_
        exact Jg.sub [6, 7, 0] rfl (m_X10_runs_p422 G hW a0 x1 x7_12 k0 I18 h)
      · skip
        by_cases c50 : (r7 - r7 / (16 : Int32) * (16 : Int32)) = (3 : Int32)
        · have h := h.2.2.1 (c50)
          refine j_tableIn G 191 dX10_runs_84 (by rw [c50]; decide) (by rw [c50]; decide) (by rw [c50] <;> rfl) (by decide) ?_
          refine j_aload_n G 6 0 dX10_runs_191 rfl rfl ?_
          refine j_get G hW 11 0 4 (.ref (a0 + 1)) k0 (by decide) rfl (by decide) rfl lay_X10 fl_X10_7 rfl rfl dX10_runs_192 ?_
          refine j_iload_n G 7 1 dX10_runs_195 rfl rfl ?_
          refine j_sipush G (210 : Int32) dX10_runs_196 (by decide) ?_
          refine j_iadd G dX10_runs_199 ?_
          refine j_iload G 1 dX10_runs_200 rfl ?_
          refine j_iadd G dX10_runs_202 ?_
          refine j_aload_n G 6 0 dX10_runs_203 rfl rfl ?_
          refine j_get G hW 11 0 4 (.ref (a0 + 1)) k0 (by decide) rfl (by decide) rfl lay_X10 fl_X10_7 rfl rfl dX10_runs_204 ?_
          refine j_iload_n G 7 1 dX10_runs_207 rfl rfl ?_
          refine j_sipush G (251 : Int32) dX10_runs_208 (by decide) ?_
          refine j_iadd G dX10_runs_211 ?_
          obtain ⟨b19, h⟩ := h
          refine j_iald G hW kk3 b19 dX10_runs_212 ?_
          obtain ⟨b20, h⟩ := h
          refine j_iast G hW kk3 b20 dX10_runs_213 ?_
          refine j_mI (fun I21 eI21 => ?_)
          have h := h I21 eI21
          refine j_aload_n G 6 0 dX10_runs_214 rfl rfl ?_
          refine j_get G hW 11 0 4 (.ref (a0 + 1)) k0 (by decide) rfl (by decide) rfl lay_X10 fl_X10_7 rfl rfl dX10_runs_215 ?_
          refine j_iload_n G 7 1 dX10_runs_218 rfl rfl ?_
          refine j_sipush G (250 : Int32) dX10_runs_219 (by decide) ?_
          refine j_iadd G dX10_runs_222 ?_
          refine j_iconst G (-1 : Int32) dX10_runs_223 (by decide) ?_
          obtain ⟨b22, h⟩ := h
          refine j_iast G hW kk3 b22 dX10_runs_224 ?_
          refine j_mI (fun I23 eI23 => ?_)
          have h := h I23 eI23
          refine j_goto G 422 dX10_runs_225 (by decide) ?_
          exact Jg.sub [6, 7, 0] rfl (m_X10_runs_p422 G hW a0 x1 x7_12 k0 I23 h)
        · skip
          by_cases c51 : (r7 - r7 / (16 : Int32) * (16 : Int32)) = (4 : Int32)
          · have h := h.2.2.2.1 (c51)
            refine j_tableIn G 228 dX10_runs_84 (by rw [c51]; decide) (by rw [c51]; decide) (by rw [c51] <;> rfl) (by decide) ?_
            refine j_aload_n G 6 0 dX10_runs_228 rfl rfl ?_
            refine j_iload_n G 7 1 dX10_runs_229 rfl rfl ?_
            refine j_iconst G (0 : Int32) dX10_runs_230 (by decide) ?_
            refine j_aload_n G 6 0 dX10_runs_231 rfl rfl ?_
            refine j_get G hW 11 0 4 (.ref (a0 + 1)) k0 (by decide) rfl (by decide) rfl lay_X10 fl_X10_7 rfl rfl dX10_runs_232 ?_
            refine j_iload_n G 7 1 dX10_runs_235 rfl rfl ?_
            refine j_sipush G (178 : Int32) dX10_runs_236 (by decide) ?_
            refine j_iadd G dX10_runs_239 ?_
            refine j_aload_n G 6 0 dX10_runs_240 rfl rfl ?_
            refine j_iload_n G 7 1 dX10_runs_241 rfl rfl ?_
            refine j_iload_n G 4 3 dX10_runs_242 rfl rfl ?_
            refine j_ci (rn_V G hW (ci := 11) (n := 2) (As := [.int x1, .int x3_5]) (rest := [.int (x1 + (178 : Int32)), .ref (a0 + 1), .int (0 : Int32), .int x1, .ref a0]) (c_X10_cellOf K hW l a0 x1 x3_5 k0 I9 J B _ h) k0 (by decide) rfl ml_X10_125 im_X10_cellOf se_X10_cellOf in_X10 co_X10_cellOf rfl (by decide +kernel) rfl rfl (by decide) (by decide) rfl rfl (Nat.le_of_ble_eq_true rfl) dX10_runs_243) (fun r24 _ h => ?_)
            refine j_iadd G dX10_runs_246 ?_
            obtain ⟨b25, h⟩ := h
            refine j_iald G hW kk3 b25 dX10_runs_247 ?_
            refine j_aload_n G 6 0 dX10_runs_248 rfl rfl ?_
            refine j_get G hW 11 0 4 (.ref (a0 + 1)) k0 (by decide) rfl (by decide) rfl lay_X10 fl_X10_7 rfl rfl dX10_runs_249 ?_
            refine j_iload_n G 7 1 dX10_runs_252 rfl rfl ?_
            refine j_sipush G (170 : Int32) dX10_runs_253 (by decide) ?_
            refine j_iadd G dX10_runs_256 ?_
            obtain ⟨b26, h⟩ := h
            refine j_iald G hW kk3 b26 dX10_runs_257 ?_
            refine j_iconst G (0 : Int32) dX10_runs_258 (by decide) ?_
            refine j_cv (rn_V G hW (ci := 11) (n := 5) (As := [.int x1, .int (0 : Int32), .int (I9 (a0 + 1) (ix ((x1 + (178 : Int32)) + r24))), .int (I9 (a0 + 1) (ix (x1 + (170 : Int32)))), .int (0 : Int32)]) (rest := []) (c_X10_pushes K hW l a0 x1 (0 : Int32) (I9 (a0 + 1) (ix ((x1 + (178 : Int32)) + r24))) (I9 (a0 + 1) (ix (x1 + (170 : Int32)))) (0 : Int32) k0 I9 J B _ h) k0 (by decide) rfl ml_X10_118 im_X10_pushes se_X10_pushes in_X10 co_X10_pushes rfl (by decide +kernel) rfl rfl (by decide) (by decide) rfl rfl (Nat.le_of_ble_eq_true rfl) dX10_runs_259) (fun I27 h => ?_)
            refine j_goto G 422 dX10_runs_262 (by decide) ?_
            exact Jg.sub [6, 7, 0] rfl (m_X10_runs_p422 G hW a0 x1 x7_12 k0 I27 h)
          · skip
            by_cases c52 : (r7 - r7 / (16 : Int32) * (16 : Int32)) = (6 : Int32)
            · have h := h.2.2.2.2.1 (c52)
              refine j_tableIn G 265 dX10_runs_84 (by rw [c52]; decide) (by rw [c52]; decide) (by rw [c52] <;> rfl) (by decide) ?_
              refine j_aload_n G 6 0 dX10_runs_265 rfl rfl ?_
              refine j_iload_n G 7 1 dX10_runs_266 rfl rfl ?_
              refine j_iconst G (1 : Int32) dX10_runs_267 (by decide) ?_
              refine j_aload_n G 6 0 dX10_runs_268 rfl rfl ?_
              refine j_iload_n G 7 1 dX10_runs_269 rfl rfl ?_
              refine j_iload_n G 4 3 dX10_runs_270 rfl rfl ?_
              refine j_ci (rn_V G hW (ci := 11) (n := 2) (As := [.int x1, .int x3_5]) (rest := [.int (1 : Int32), .int x1, .ref a0]) (c_X10_cellOf K hW l a0 x1 x3_5 k0 I9 J B _ h) k0 (by decide) rfl ml_X10_125 im_X10_cellOf se_X10_cellOf in_X10 co_X10_cellOf rfl (by decide +kernel) rfl rfl (by decide) (by decide) rfl rfl (Nat.le_of_ble_eq_true rfl) dX10_runs_271) (fun r28 _ h => ?_)
              refine j_iconst G (1 : Int32) dX10_runs_274 (by decide) ?_
              refine j_aload_n G 6 0 dX10_runs_275 rfl rfl ?_
              refine j_iload_n G 7 1 dX10_runs_276 rfl rfl ?_
              refine j_iload G 1 dX10_runs_277 rfl ?_
              refine j_ci (rn_V G hW (ci := 11) (n := 2) (As := [.int x1, .int r11]) (rest := [.int (1 : Int32), .int r28, .int (1 : Int32), .int x1, .ref a0]) (c_X10_reg K hW l a0 x1 r11 k0 I9 J B _ h) k0 (by decide) rfl ml_X10_92 im_X10_reg se_X10_reg in_X10 co_X10_reg rfl (by decide +kernel) rfl rfl (by decide) (by decide) rfl rfl (Nat.le_of_ble_eq_true rfl) dX10_runs_279) (fun r29 _ h => ?_)
              refine j_cv (rn_V G hW (ci := 11) (n := 5) (As := [.int x1, .int (1 : Int32), .int r28, .int (1 : Int32), .int r29]) (rest := []) (c_X10_pushes K hW l a0 x1 (1 : Int32) r28 (1 : Int32) r29 k0 I9 J B _ h) k0 (by decide) rfl ml_X10_118 im_X10_pushes se_X10_pushes in_X10 co_X10_pushes rfl (by decide +kernel) rfl rfl (by decide) (by decide) rfl rfl (Nat.le_of_ble_eq_true rfl) dX10_runs_282) (fun I30 h => ?_)
              refine j_goto G 422 dX10_runs_285 (by decide) ?_
              exact Jg.sub [6, 7, 0] rfl (m_X10_runs_p422 G hW a0 x1 x7_12 k0 I30 h)
            · skip
              by_cases c53 : (r7 - r7 / (16 : Int32) * (16 : Int32)) = (7 : Int32)
              · have h := h.2.2.2.2.2.1 (c53)
                refine j_tableIn G 288 dX10_runs_84 (by rw [c53]; decide) (by rw [c53]; decide) (by rw [c53] <;> rfl) (by decide) ?_
                refine j_aload_n G 6 0 dX10_runs_288 rfl rfl ?_
                refine j_iload_n G 7 1 dX10_runs_289 rfl rfl ?_
                refine j_iconst G (1 : Int32) dX10_runs_290 (by decide) ?_
                refine j_aload_n G 6 0 dX10_runs_291 rfl rfl ?_
                refine j_iload_n G 7 1 dX10_runs_292 rfl rfl ?_
                refine j_iload_n G 4 3 dX10_runs_293 rfl rfl ?_
                refine j_ci (rn_V G hW (ci := 11) (n := 2) (As := [.int x1, .int x3_5]) (rest := [.int (1 : Int32), .int x1, .ref a0]) (c_X10_cellOf K hW l a0 x1 x3_5 k0 I9 J B _ h) k0 (by decide) rfl ml_X10_125 im_X10_cellOf se_X10_cellOf in_X10 co_X10_cellOf rfl (by decide +kernel) rfl rfl (by decide) (by decide) rfl rfl (Nat.le_of_ble_eq_true rfl) dX10_runs_294) (fun r31 _ h => ?_)
                refine j_iconst G (0 : Int32) dX10_runs_297 (by decide) ?_
                refine j_iconst G (0 : Int32) dX10_runs_298 (by decide) ?_
                refine j_cv (rn_V G hW (ci := 11) (n := 5) (As := [.int x1, .int (1 : Int32), .int r31, .int (0 : Int32), .int (0 : Int32)]) (rest := []) (c_X10_pushes K hW l a0 x1 (1 : Int32) r31 (0 : Int32) (0 : Int32) k0 I9 J B _ h) k0 (by decide) rfl ml_X10_118 im_X10_pushes se_X10_pushes in_X10 co_X10_pushes rfl (by decide +kernel) rfl rfl (by decide) (by decide) rfl rfl (Nat.le_of_ble_eq_true rfl) dX10_runs_299) (fun I32 h => ?_)
                refine j_goto G 422 dX10_runs_302 (by decide) ?_
                exact Jg.sub [6, 7, 0] rfl (m_X10_runs_p422 G hW a0 x1 x7_12 k0 I32 h)
              · skip
                by_cases c54 : (r7 - r7 / (16 : Int32) * (16 : Int32)) = (9 : Int32)
                · have h := h.2.2.2.2.2.2.1 (c54)
                  refine j_tableIn G 305 dX10_runs_84 (by rw [c54]; decide) (by rw [c54]; decide) (by rw [c54] <;> rfl) (by decide) ?_
                  refine j_aload_n G 6 0 dX10_runs_305 rfl rfl ?_
                  refine j_iload_n G 7 1 dX10_runs_306 rfl rfl ?_
                  refine j_iload_n G 4 3 dX10_runs_307 rfl rfl ?_
                  refine j_iconst G (4 : Int32) dX10_runs_308 (by decide) ?_
                  refine j_ci (rn_V G hW (ci := 11) (n := 3) (As := [.int x1, .int x3_5, .int (4 : Int32)]) (rest := []) (c_X10_of K hW l a0 x1 x3_5 (4 : Int32) k0 I9 J B _ h) k0 (by decide) rfl ml_X10_54 im_X10_of se_X10_of in_X10 co_X10_of rfl (by decide +kernel) rfl rfl (by decide) (by decide) rfl rfl (Nat.le_of_ble_eq_true rfl) dX10_runs_309) (fun r33 _ h => ?_)
                  refine j_istore G [(7, .int r33), (6, .int r11), (5, .int r8), (4, .int r7), (3, .int x3_5), (2, .int r1), (0, .ref a0), (1, .int x1)] dX10_runs_312 (by decide) rfl ?_
                  refine j_goto G 422 dX10_runs_314 (by decide) ?_
                  exact Jg.sub [6, 7, 0] rfl (m_X10_runs_p422 G hW a0 x1 r33 k0 I9 h)
                · skip
                  by_cases c55 : (r7 - r7 / (16 : Int32) * (16 : Int32)) = (10 : Int32)
                  · have h := h.2.2.2.2.2.2.2.1 (c55)
                    refine j_tableIn G 317 dX10_runs_84 (by rw [c55]; decide) (by rw [c55]; decide) (by rw [c55] <;> rfl) (by decide) ?_
                    refine j_aload_n G 6 0 dX10_runs_317 rfl rfl ?_
                    refine j_iload_n G 7 1 dX10_runs_318 rfl rfl ?_
                    refine j_iload_n G 4 3 dX10_runs_319 rfl rfl ?_
                    refine j_iconst G (3 : Int32) dX10_runs_320 (by decide) ?_
                    refine j_ci (rn_V G hW (ci := 11) (n := 3) (As := [.int x1, .int x3_5, .int (3 : Int32)]) (rest := []) (c_X10_of K hW l a0 x1 x3_5 (3 : Int32) k0 I9 J B _ h) k0 (by decide) rfl ml_X10_54 im_X10_of se_X10_of in_X10 co_X10_of rfl (by decide +kernel) rfl rfl (by decide) (by decide) rfl rfl (Nat.le_of_ble_eq_true rfl) dX10_runs_321) (fun r34 _ h => ?_)
                    refine j_aload_n G 6 0 dX10_runs_324 rfl rfl ?_
                    refine j_iload_n G 7 1 dX10_runs_325 rfl rfl ?_
                    refine j_iload G 1 dX10_runs_326 rfl ?_
                    refine j_ci (rn_V G hW (ci := 11) (n := 2) (As := [.int x1, .int r11]) (rest := [.int r34]) (c_X10_reg K hW l a0 x1 r11 k0 I9 J B _ h) k0 (by decide) rfl ml_X10_92 im_X10_reg se_X10_reg in_X10 co_X10_reg rfl (by decide +kernel) rfl rfl (by decide) (by decide) rfl rfl (Nat.le_of_ble_eq_true rfl) dX10_runs_328) (fun r35 _ h => ?_)
                    refine j_aload_n G 6 0 dX10_runs_331 rfl rfl ?_
                    refine j_iload_n G 7 1 dX10_runs_332 rfl rfl ?_
                    refine j_aload_n G 6 0 dX10_runs_333 rfl rfl ?_
                    refine j_iload_n G 7 1 dX10_runs_334 rfl rfl ?_
                    refine j_iload_n G 4 3 dX10_runs_335 rfl rfl ?_
                    refine j_iconst G (2 : Int32) dX10_runs_336 (by decide) ?_
                    refine j_ci (rn_V G hW (ci := 11) (n := 3) (As := [.int x1, .int x3_5, .int (2 : Int32)]) (rest := [.int x1, .ref a0, .int r35, .int r34]) (c_X10_of K hW l a0 x1 x3_5 (2 : Int32) k0 I9 J B _ h) k0 (by decide) rfl ml_X10_54 im_X10_of se_X10_of in_X10 co_X10_of rfl (by decide +kernel) rfl rfl (by decide) (by decide) rfl rfl (Nat.le_of_ble_eq_true rfl) dX10_runs_337) (fun r36 _ h => ?_)
                    refine j_ci (rn_V G hW (ci := 11) (n := 2) (As := [.int x1, .int r36]) (rest := [.int r35, .int r34]) (c_X10_reg K hW l a0 x1 r36 k0 I9 J B _ h) k0 (by decide) rfl ml_X10_92 im_X10_reg se_X10_reg in_X10 co_X10_reg rfl (by decide +kernel) rfl rfl (by decide) (by decide) rfl rfl (Nat.le_of_ble_eq_true rfl) dX10_runs_340) (fun r37 _ h => ?_)
                    refine j_ci (rn_S G (n := 3) (As := [.int r34, .int r35, .int r37]) (rest := []) (c_X10_holds K hW l r34 r35 r37 I9 J B _ h) ml_X10_128 st_X10_holds in_X10 co_X10_holds (by decide +kernel) rfl rfl (by decide) (by decide) rfl rfl (Nat.le_of_ble_eq_true rfl) dX10_runs_343) (fun r38 _ h => ?_)
                    refine j_istore G [(8, .int r38), (7, .int x7_12), (6, .int r11), (5, .int r8), (4, .int r7), (3, .int x3_5), (2, .int r1), (0, .ref a0), (1, .int x1)] dX10_runs_346 (by decide) rfl ?_
                    refine j_aload_n G 7 0 dX10_runs_348 rfl rfl ?_
                    refine j_iload_n G 8 1 dX10_runs_349 rfl rfl ?_
                    refine j_iconst G (4 : Int32) dX10_runs_350 (by decide) ?_
                    refine j_iload G 0 dX10_runs_351 rfl ?_
                    refine j_if_eq G 360 dX10_runs_353 (by decide) (fun c39 => ?_) (fun c39 => ?_)
                    · have h := h.1 c39
                      refine j_iconst G (0 : Int32) dX10_runs_360 (by decide) ?_
                      exact Jg.sub [7, 8, 5, 1, 0] rfl (m_X10_runs_p361 G hW a0 x1 x3_5 x7_12 r38 (0 : Int32) (4 : Int32) x1 a0 k0 k0 I9 h)
                    · have h := h.2 c39
                      refine j_iconst G (1 : Int32) dX10_runs_356 (by decide) ?_
                      refine j_goto G 361 dX10_runs_357 (by decide) ?_
                      exact Jg.sub [7, 8, 5, 1, 0] rfl (m_X10_runs_p361 G hW a0 x1 x3_5 x7_12 r38 (1 : Int32) (4 : Int32) x1 a0 k0 k0 I9 h)
                  · skip
                    by_cases c56 : (r7 - r7 / (16 : Int32) * (16 : Int32)) = (12 : Int32)
                    · have h := h.2.2.2.2.2.2.2.2.1 (c56)
                      refine j_tableIn G 388 dX10_runs_84 (by rw [c56]; decide) (by rw [c56]; decide) (by rw [c56] <;> rfl) (by decide) ?_
                      refine j_aload_n G 6 0 dX10_runs_388 rfl rfl ?_
                      refine j_iload_n G 7 1 dX10_runs_389 rfl rfl ?_
                      refine j_iconst G (5 : Int32) dX10_runs_390 (by decide) ?_
                      refine j_ci (rn_V G hW (ci := 11) (n := 2) (As := [.int x1, .int (5 : Int32)]) (rest := []) (c_X10_takes K hW l a0 x1 (5 : Int32) k0 I9 J B _ h) k0 (by decide) rfl ml_X10_101 im_X10_takes se_X10_takes in_X10 co_X10_takes rfl (by decide +kernel) rfl rfl (by decide) (by decide) rfl rfl (Nat.le_of_ble_eq_true rfl) dX10_runs_391) (fun r43 I44 h => ?_)
                      refine j_iconst G (1 : Int32) dX10_runs_394 (by decide) ?_
                      refine j_icmp_ne G 408 dX10_runs_395 (by decide) (fun c45 => ?_) (fun c45 => ?_)
                      · have h := h.1 c45
                        refine j_iload G 0 dX10_runs_408 rfl ?_
                        refine j_istore G [(7, .int x7_12), (6, .int r11), (5, .int r8), (4, .int r7), (3, .int x3_5), (2, .int r1), (0, .ref a0), (1, .int x1)] dX10_runs_410 (by decide) rfl ?_
                        refine j_goto G 422 dX10_runs_412 (by decide) ?_
                        exact Jg.sub [6, 7, 0] rfl (m_X10_runs_p422 G hW a0 x1 x7_12 k0 I44 h)
                      · have h := h.2 c45
                        refine j_aload_n G 6 0 dX10_runs_398 rfl rfl ?_
                        refine j_iload_n G 7 1 dX10_runs_399 rfl rfl ?_
                        refine j_iload_n G 4 3 dX10_runs_400 rfl rfl ?_
                        refine j_iconst G (4 : Int32) dX10_runs_401 (by decide) ?_
                        refine j_ci (rn_V G hW (ci := 11) (n := 3) (As := [.int x1, .int x3_5, .int (4 : Int32)]) (rest := []) (c_X10_of K hW l a0 x1 x3_5 (4 : Int32) k0 I44 J B _ h) k0 (by decide) rfl ml_X10_54 im_X10_of se_X10_of in_X10 co_X10_of rfl (by decide +kernel) rfl rfl (by decide) (by decide) rfl rfl (Nat.le_of_ble_eq_true rfl) dX10_runs_402) (fun r46 _ h => ?_)
                        refine j_goto G 410 dX10_runs_405 (by decide) ?_
                        refine j_istore G [(7, .int r46), (6, .int r11), (5, .int r8), (4, .int r7), (3, .int x3_5), (2, .int r1), (0, .ref a0), (1, .int x1)] dX10_runs_410 (by decide) rfl ?_
                        refine j_goto G 422 dX10_runs_412 (by decide) ?_
                        exact Jg.sub [6, 7, 0] rfl (m_X10_runs_p422 G hW a0 x1 r46 k0 I44 h)
                    · skip
                      have h := h.2.2.2.2.2.2.2.2.2 c48 c49 c50 c51 c52 c53 c54 c55 c56
                      by_cases c57 : (r7 - r7 / (16 : Int32) * (16 : Int32)) = (5 : Int32)
                      · refine j_tableIn G 415 dX10_runs_84 (by rw [c57]; decide) (by rw [c57]; decide) (by rw [c57] <;> rfl) (by decide) ?_
                        refine j_aload_n G 6 0 dX10_runs_415 rfl rfl ?_
                        refine j_iload_n G 7 1 dX10_runs_416 rfl rfl ?_
                        refine j_iconst G (0 : Int32) dX10_runs_417 (by decide) ?_
                        refine j_cv (rn_V G hW (ci := 11) (n := 2) (As := [.int x1, .int (0 : Int32)]) (rest := []) (c_X10_ends K hW l a0 x1 (0 : Int32) k0 I9 J B _ h) k0 (by decide) rfl ml_X10_132 im_X10_ends se_X10_ends in_X10 co_X10_ends rfl (by decide +kernel) rfl rfl (by decide) (by decide) rfl rfl (Nat.le_of_ble_eq_true rfl) dX10_runs_418) (fun I47 h => ?_)
                        exact j_retv G I47 dX10_runs_421 h rfl
                      · skip
                        by_cases c58 : (r7 - r7 / (16 : Int32) * (16 : Int32)) = (8 : Int32)
                        · refine j_tableIn G 415 dX10_runs_84 (by rw [c58]; decide) (by rw [c58]; decide) (by rw [c58] <;> rfl) (by decide) ?_
                          refine j_aload_n G 6 0 dX10_runs_415 rfl rfl ?_
                          refine j_iload_n G 7 1 dX10_runs_416 rfl rfl ?_
                          refine j_iconst G (0 : Int32) dX10_runs_417 (by decide) ?_
                          refine j_cv (rn_V G hW (ci := 11) (n := 2) (As := [.int x1, .int (0 : Int32)]) (rest := []) (c_X10_ends K hW l a0 x1 (0 : Int32) k0 I9 J B _ h) k0 (by decide) rfl ml_X10_132 im_X10_ends se_X10_ends in_X10 co_X10_ends rfl (by decide +kernel) rfl rfl (by decide) (by decide) rfl rfl (Nat.le_of_ble_eq_true rfl) dX10_runs_418) (fun I47 h => ?_)
                          exact j_retv G I47 dX10_runs_421 h rfl
                        · skip
                          by_cases c59 : (r7 - r7 / (16 : Int32) * (16 : Int32)) = (11 : Int32)
                          · refine j_tableIn G 415 dX10_runs_84 (by rw [c59]; decide) (by rw [c59]; decide) (by rw [c59] <;> rfl) (by decide) ?_
                            refine j_aload_n G 6 0 dX10_runs_415 rfl rfl ?_
                            refine j_iload_n G 7 1 dX10_runs_416 rfl rfl ?_
                            refine j_iconst G (0 : Int32) dX10_runs_417 (by decide) ?_
                            refine j_cv (rn_V G hW (ci := 11) (n := 2) (As := [.int x1, .int (0 : Int32)]) (rest := []) (c_X10_ends K hW l a0 x1 (0 : Int32) k0 I9 J B _ h) k0 (by decide) rfl ml_X10_132 im_X10_ends se_X10_ends in_X10 co_X10_ends rfl (by decide +kernel) rfl rfl (by decide) (by decide) rfl rfl (Nat.le_of_ble_eq_true rfl) dX10_runs_418) (fun I47 h => ?_)
                            exact j_retv G I47 dX10_runs_421 h rfl
                          · skip
                            have nc48 := sw_ne (n := 1) rfl c48
                            have nc49 := sw_ne (n := 2) rfl c49
                            have nc50 := sw_ne (n := 3) rfl c50
                            have nc51 := sw_ne (n := 4) rfl c51
                            have nc57 := sw_ne (n := 5) rfl c57
                            have nc52 := sw_ne (n := 6) rfl c52
                            have nc53 := sw_ne (n := 7) rfl c53
                            have nc58 := sw_ne (n := 8) rfl c58
                            have nc54 := sw_ne (n := 9) rfl c54
                            have nc55 := sw_ne (n := 10) rfl c55
                            have nc59 := sw_ne (n := 11) rfl c59
                            have nc56 := sw_ne (n := 12) rfl c56
                            refine j_tableOut G 415 dX10_runs_84 (by omega) (by decide) ?_
                            refine j_aload_n G 6 0 dX10_runs_415 rfl rfl ?_
                            refine j_iload_n G 7 1 dX10_runs_416 rfl rfl ?_
                            refine j_iconst G (0 : Int32) dX10_runs_417 (by decide) ?_
                            refine j_cv (rn_V G hW (ci := 11) (n := 2) (As := [.int x1, .int (0 : Int32)]) (rest := []) (c_X10_ends K hW l a0 x1 (0 : Int32) k0 I9 J B _ h) k0 (by decide) rfl ml_X10_132 im_X10_ends se_X10_ends in_X10 co_X10_ends rfl (by decide +kernel) rfl rfl (by decide) (by decide) rfl rfl (Nat.le_of_ble_eq_true rfl) dX10_runs_418) (fun I47 h => ?_)
                            exact j_retv G I47 dX10_runs_421 h rfl
  · have h := h.2 c10
    refine j_aload_n G 4 0 dX10_runs_56 rfl rfl ?_
    refine j_iload_n G 5 1 dX10_runs_57 rfl rfl ?_
    refine j_iconst G (0 : Int32) dX10_runs_58 (by decide) ?_
    refine j_iload G 0 dX10_runs_59 rfl ?_
    refine j_cv (rn_V G hW (ci := 11) (n := 3) (As := [.int x1, .int (0 : Int32), .int r8]) (rest := []) (c_X10_waits K hW l a0 x1 (0 : Int32) r8 k0 I9 J B _ h) k0 (by decide) rfl ml_X10_115 im_X10_waits se_X10_waits in_X10 co_X10_waits rfl (by decide +kernel) rfl rfl (by decide) (by decide) rfl rfl (Nat.le_of_ble_eq_true rfl) dX10_runs_61) (fun I60 h => ?_)
    exact j_retv G I60 dX10_runs_64 h rfl
abbrev rm_X10_works : Room := { frames := 3, cells := 0, slots := 0, locals := 69 }
def w_X10_works (a0 : Nat) (x1 : Int32) (x2 : Int32) (I : MI) (Q : Int32 → MI → Prop) : Prop :=
(w_X10_isAim a0 x1 x2 I (fun r1 =>
((r1 = 0 → (w_X10_reg a0 x1 x2 I (fun r3 =>
Q r3 I))) ∧
(¬ r1 = 0 → (w_X10_takes a0 x1 (3 : Int32) I (fun r4 I5 =>
Q r4 I5))))))
set_option maxHeartbeats 4000000 in
set_option maxRecDepth 100000 in
theorem c_X10_works (K : Kx) (hW : WFK K) (l : Launch) (a0 : Nat) (x1 : Int32) (x2 : Int32) (k0 : (kG K a0).1 = 12) (I : MI) (J : MJ) (B : MR) (Q : Int32 → MI → Prop) (h : w_X10_works a0 x1 x2 I Q) : Con K l yX10_works (wsT yX10_works cX10_works 3 (some .int)) rm_X10_works [.ref a0, .int x1, .int x2] (I, J, B) (va_Qi (S := MI) Q (fun u t => HP K (u, J, B) t.heap) (AA K)) := by
  refine Con.ofJ RX10 rfl (by decide) (Nat.le_of_ble_eq_true rfl) (fun m H0 w G => ?_)
  unfold w_X10_works at h
  show Jg K m 3 H0 w 0 [(0, .ref a0), (1, .int x1), (2, .int x2)] [] (I, J, B)
  refine j_aload_n G 0 0 dX10_works_0 rfl rfl ?_
  refine j_iload_n G 1 1 dX10_works_1 rfl rfl ?_
  refine j_iload_n G 2 2 dX10_works_2 rfl rfl ?_
  refine j_ci (rn_V G hW (ci := 11) (n := 2) (As := [.int x1, .int x2]) (rest := []) (c_X10_isAim K hW l a0 x1 x2 k0 I J B _ h) k0 (by decide) rfl ml_X10_70 im_X10_isAim se_X10_isAim in_X10 co_X10_isAim rfl (by decide +kernel) rfl rfl (by decide) (by decide) rfl rfl (Nat.le_of_ble_eq_true rfl) dX10_works_3) (fun r1 _ h => ?_)
  refine j_if_eq G 18 dX10_works_6 (by decide) (fun c2 => ?_) (fun c2 => ?_)
  · have h := h.1 c2
    refine j_aload_n G 0 0 dX10_works_18 rfl rfl ?_
    refine j_iload_n G 1 1 dX10_works_19 rfl rfl ?_
    refine j_iload_n G 2 2 dX10_works_20 rfl rfl ?_
    refine j_ci (rn_V G hW (ci := 11) (n := 2) (As := [.int x1, .int x2]) (rest := []) (c_X10_reg K hW l a0 x1 x2 k0 I J B _ h) k0 (by decide) rfl ml_X10_92 im_X10_reg se_X10_reg in_X10 co_X10_reg rfl (by decide +kernel) rfl rfl (by decide) (by decide) rfl rfl (Nat.le_of_ble_eq_true rfl) dX10_works_21) (fun r3 _ h => ?_)
    exact j_reti G I rfl dX10_works_24 h rfl
  · have h := h.2 c2
    refine j_aload_n G 0 0 dX10_works_9 rfl rfl ?_
    refine j_iload_n G 1 1 dX10_works_10 rfl rfl ?_
    refine j_iconst G (3 : Int32) dX10_works_11 (by decide) ?_
    refine j_ci (rn_V G hW (ci := 11) (n := 2) (As := [.int x1, .int (3 : Int32)]) (rest := []) (c_X10_takes K hW l a0 x1 (3 : Int32) k0 I J B _ h) k0 (by decide) rfl ml_X10_101 im_X10_takes se_X10_takes in_X10 co_X10_takes rfl (by decide +kernel) rfl rfl (by decide) (by decide) rfl rfl (Nat.le_of_ble_eq_true rfl) dX10_works_12) (fun r4 I5 h => ?_)
    refine j_goto G 24 dX10_works_15 (by decide) ?_
    exact j_reti G I5 rfl dX10_works_24 h rfl
abbrev rm_X10_excuse : Room := { frames := 3, cells := 0, slots := 0, locals := 66 }
def w_X10_excuse (a0 : Nat) (x1 : Int32) (x2 : Int32) (x3 : Int32) (I : MI) (Q : Int32 →  Prop) : Prop :=
((¬ x3 = (5 : Int32) → ((¬ x3 = (11 : Int32) → ((¬ x3 = (8 : Int32) → ((¬ x3 = (2 : Int32) → ((x3 = (13 : Int32) → (w_X10_inQueue a0 x1 (3 : Int32) I (fun r6 =>
(w_X10_of a0 x1 x2 (1 : Int32) I (fun r7 =>
(w_X10_of a0 x1 x2 (2 : Int32) I (fun r8 =>
(w_X10_sends a0 x1 r7 r8 I (fun r9 =>
((r9 ≤ r6 → (w_X10_isFull a0 x1 (5 : Int32) I (fun r11 =>
((r11 = 0 → Q (0 : Int32)) ∧
(¬ r11 = 0 → Q (5 : Int32)))))) ∧
(¬ r9 ≤ r6 → Q (2 : Int32)))))))))))) ∧
(¬ x3 = (13 : Int32) → Q (0 : Int32)))) ∧
(x3 = (2 : Int32) → (w_X10_opOf a0 x1 x2 I (fun r13 =>
((r13 = 0 → Q (0 : Int32)) ∧
(¬ r13 = 0 → (w_X10_inQueue a0 x1 (3 : Int32) I (fun r15 =>
(w_X10_of a0 x1 x2 (2 : Int32) I (fun r16 =>
(w_X10_of a0 x1 x2 (3 : Int32) I (fun r17 =>
(w_X10_sends a0 x1 r16 r17 I (fun r18 =>
((r18 ≤ r15 → Q (0 : Int32)) ∧
(¬ r18 ≤ r15 → Q (2 : Int32)))))))))))))))))) ∧
(x3 = (8 : Int32) → (w_X10_isFull a0 x1 (2 : Int32) I (fun r20 =>
((r20 = 0 → Q (0 : Int32)) ∧
(¬ r20 = 0 → Q (4 : Int32)))))))) ∧
(x3 = (11 : Int32) → (w_X10_inQueue a0 x1 (4 : Int32) I (fun r22 =>
((¬ r22 = 0 → Q (0 : Int32)) ∧
(r22 = 0 → Q (3 : Int32)))))))) ∧
(x3 = (5 : Int32) → (w_X10_inQueue a0 x1 (0 : Int32) I (fun r24 =>
((r24 = 0 → Q (1 : Int32)) ∧
(¬ r24 = 0 → (w_X10_hasCome a0 x1 (0 : Int32) I (fun r26 =>
((¬ r26 = 0 → Q (0 : Int32)) ∧
(r26 = 0 → Q (1 : Int32)))))))))))
set_option maxHeartbeats 4000000 in
set_option maxRecDepth 100000 in
theorem c_X10_excuse (K : Kx) (hW : WFK K) (l : Launch) (a0 : Nat) (x1 : Int32) (x2 : Int32) (x3 : Int32) (k0 : (kG K a0).1 = 12) (I : MI) (J : MJ) (B : MR) (Q : Int32 →  Prop) (h : w_X10_excuse a0 x1 x2 x3 I Q) : Con K l yX10_excuse (wsT yX10_excuse cX10_excuse 4 (some .int)) rm_X10_excuse [.ref a0, .int x1, .int x2, .int x3] (I, J, B) (va_Qi (S := Unit) (fun r _ => Q r) (fun u t => HP K (I, J, B) t.heap) (AA K)) := by
  refine Con.ofJ RX10 rfl (by decide) (Nat.le_of_ble_eq_true rfl) (fun m H0 w G => ?_)
  unfold w_X10_excuse at h
  show Jg K m 4 H0 w 0 [(0, .ref a0), (1, .int x1), (2, .int x2), (3, .int x3)] [] (I, J, B)
  refine j_iload_n G 3 3 dX10_excuse_0 rfl rfl ?_
  refine j_iconst G (5 : Int32) dX10_excuse_1 (by decide) ?_
  refine j_icmp_ne G 29 dX10_excuse_2 (by decide) (fun c1 => ?_) (fun c1 => ?_)
  · have h := h.1 c1
    refine j_iload_n G 3 3 dX10_excuse_29 rfl rfl ?_
    refine j_bipush G (11 : Int32) dX10_excuse_30 (by decide) ?_
    refine j_icmp_ne G 50 dX10_excuse_32 (by decide) (fun c2 => ?_) (fun c2 => ?_)
    · have h := h.1 c2
      refine j_iload_n G 3 3 dX10_excuse_50 rfl rfl ?_
      refine j_bipush G (8 : Int32) dX10_excuse_51 (by decide) ?_
      refine j_icmp_ne G 71 dX10_excuse_53 (by decide) (fun c3 => ?_) (fun c3 => ?_)
      · have h := h.1 c3
        refine j_iload_n G 3 3 dX10_excuse_71 rfl rfl ?_
        refine j_iconst G (2 : Int32) dX10_excuse_72 (by decide) ?_
        refine j_icmp_ne G 119 dX10_excuse_73 (by decide) (fun c4 => ?_) (fun c4 => ?_)
        · have h := h.1 c4
          refine j_iload_n G 3 3 dX10_excuse_119 rfl rfl ?_
          refine j_bipush G (13 : Int32) dX10_excuse_120 (by decide) ?_
          refine j_icmp_eq G 127 dX10_excuse_122 (by decide) (fun c5 => ?_) (fun c5 => ?_)
          · have h := h.1 c5
            refine j_aload_n G 0 0 dX10_excuse_127 rfl rfl ?_
            refine j_iload_n G 1 1 dX10_excuse_128 rfl rfl ?_
            refine j_iconst G (3 : Int32) dX10_excuse_129 (by decide) ?_
            refine j_ci (rn_V G hW (ci := 11) (n := 2) (As := [.int x1, .int (3 : Int32)]) (rest := []) (c_X10_inQueue K hW l a0 x1 (3 : Int32) k0 I J B _ h) k0 (by decide) rfl ml_X10_86 im_X10_inQueue se_X10_inQueue in_X10 co_X10_inQueue rfl (by decide +kernel) rfl rfl (by decide) (by decide) rfl rfl (Nat.le_of_ble_eq_true rfl) dX10_excuse_130) (fun r6 _ h => ?_)
            refine j_aload_n G 0 0 dX10_excuse_133 rfl rfl ?_
            refine j_iload_n G 1 1 dX10_excuse_134 rfl rfl ?_
            refine j_aload_n G 0 0 dX10_excuse_135 rfl rfl ?_
            refine j_iload_n G 1 1 dX10_excuse_136 rfl rfl ?_
            refine j_iload_n G 2 2 dX10_excuse_137 rfl rfl ?_
            refine j_iconst G (1 : Int32) dX10_excuse_138 (by decide) ?_
            refine j_ci (rn_V G hW (ci := 11) (n := 3) (As := [.int x1, .int x2, .int (1 : Int32)]) (rest := [.int x1, .ref a0, .int r6]) (c_X10_of K hW l a0 x1 x2 (1 : Int32) k0 I J B _ h) k0 (by decide) rfl ml_X10_54 im_X10_of se_X10_of in_X10 co_X10_of rfl (by decide +kernel) rfl rfl (by decide) (by decide) rfl rfl (Nat.le_of_ble_eq_true rfl) dX10_excuse_139) (fun r7 _ h => ?_)
            refine j_aload_n G 0 0 dX10_excuse_142 rfl rfl ?_
            refine j_iload_n G 1 1 dX10_excuse_143 rfl rfl ?_
            refine j_iload_n G 2 2 dX10_excuse_144 rfl rfl ?_
            refine j_iconst G (2 : Int32) dX10_excuse_145 (by decide) ?_
            refine j_ci (rn_V G hW (ci := 11) (n := 3) (As := [.int x1, .int x2, .int (2 : Int32)]) (rest := [.int r7, .int x1, .ref a0, .int r6]) (c_X10_of K hW l a0 x1 x2 (2 : Int32) k0 I J B _ h) k0 (by decide) rfl ml_X10_54 im_X10_of se_X10_of in_X10 co_X10_of rfl (by decide +kernel) rfl rfl (by decide) (by decide) rfl rfl (Nat.le_of_ble_eq_true rfl) dX10_excuse_146) (fun r8 _ h => ?_)
            refine j_ci (rn_V G hW (ci := 11) (n := 3) (As := [.int x1, .int r7, .int r8]) (rest := [.int r6]) (c_X10_sends K hW l a0 x1 r7 r8 k0 I J B _ h) k0 (by decide) rfl ml_X10_73 im_X10_sends se_X10_sends in_X10 co_X10_sends rfl (by decide +kernel) rfl rfl (by decide) (by decide) rfl rfl (Nat.le_of_ble_eq_true rfl) dX10_excuse_149) (fun r9 _ h => ?_)
            refine j_icmp_ge G 159 dX10_excuse_152 (by decide) (fun c10 => ?_) (fun c10 => ?_)
            · have h := h.1 c10
              refine j_aload_n G 0 0 dX10_excuse_159 rfl rfl ?_
              refine j_iload_n G 1 1 dX10_excuse_160 rfl rfl ?_
              refine j_iconst G (5 : Int32) dX10_excuse_161 (by decide) ?_
              refine j_ci (rn_V G hW (ci := 11) (n := 2) (As := [.int x1, .int (5 : Int32)]) (rest := []) (c_X10_isFull K hW l a0 x1 (5 : Int32) k0 I J B _ h) k0 (by decide) rfl ml_X10_138 im_X10_isFull se_X10_isFull in_X10 co_X10_isFull rfl (by decide +kernel) rfl rfl (by decide) (by decide) rfl rfl (Nat.le_of_ble_eq_true rfl) dX10_excuse_162) (fun r11 _ h => ?_)
              refine j_if_eq G 172 dX10_excuse_165 (by decide) (fun c12 => ?_) (fun c12 => ?_)
              · have h := h.1 c12
                refine j_iconst G (0 : Int32) dX10_excuse_172 (by decide) ?_
                exact j_reti G () rfl dX10_excuse_173 h rfl
              · have h := h.2 c12
                refine j_iconst G (5 : Int32) dX10_excuse_168 (by decide) ?_
                refine j_goto G 173 dX10_excuse_169 (by decide) ?_
                exact j_reti G () rfl dX10_excuse_173 h rfl
            · have h := h.2 c10
              refine j_iconst G (2 : Int32) dX10_excuse_155 (by decide) ?_
              refine j_goto G 173 dX10_excuse_156 (by decide) ?_
              exact j_reti G () rfl dX10_excuse_173 h rfl
          · have h := h.2 c5
            refine j_iconst G (0 : Int32) dX10_excuse_125 (by decide) ?_
            exact j_reti G () rfl dX10_excuse_126 h rfl
        · have h := h.2 c4
          refine j_aload_n G 0 0 dX10_excuse_76 rfl rfl ?_
          refine j_iload_n G 1 1 dX10_excuse_77 rfl rfl ?_
          refine j_iload_n G 2 2 dX10_excuse_78 rfl rfl ?_
          refine j_ci (rn_V G hW (ci := 11) (n := 2) (As := [.int x1, .int x2]) (rest := []) (c_X10_opOf K hW l a0 x1 x2 k0 I J B _ h) k0 (by decide) rfl ml_X10_58 im_X10_opOf se_X10_opOf in_X10 co_X10_opOf rfl (by decide +kernel) rfl rfl (by decide) (by decide) rfl rfl (Nat.le_of_ble_eq_true rfl) dX10_excuse_79) (fun r13 _ h => ?_)
          refine j_if_eq G 117 dX10_excuse_82 (by decide) (fun c14 => ?_) (fun c14 => ?_)
          · have h := h.1 c14
            refine j_iconst G (0 : Int32) dX10_excuse_117 (by decide) ?_
            exact j_reti G () rfl dX10_excuse_118 h rfl
          · have h := h.2 c14
            refine j_aload_n G 0 0 dX10_excuse_85 rfl rfl ?_
            refine j_iload_n G 1 1 dX10_excuse_86 rfl rfl ?_
            refine j_iconst G (3 : Int32) dX10_excuse_87 (by decide) ?_
            refine j_ci (rn_V G hW (ci := 11) (n := 2) (As := [.int x1, .int (3 : Int32)]) (rest := []) (c_X10_inQueue K hW l a0 x1 (3 : Int32) k0 I J B _ h) k0 (by decide) rfl ml_X10_86 im_X10_inQueue se_X10_inQueue in_X10 co_X10_inQueue rfl (by decide +kernel) rfl rfl (by decide) (by decide) rfl rfl (Nat.le_of_ble_eq_true rfl) dX10_excuse_88) (fun r15 _ h => ?_)
            refine j_aload_n G 0 0 dX10_excuse_91 rfl rfl ?_
            refine j_iload_n G 1 1 dX10_excuse_92 rfl rfl ?_
            refine j_aload_n G 0 0 dX10_excuse_93 rfl rfl ?_
            refine j_iload_n G 1 1 dX10_excuse_94 rfl rfl ?_
            refine j_iload_n G 2 2 dX10_excuse_95 rfl rfl ?_
            refine j_iconst G (2 : Int32) dX10_excuse_96 (by decide) ?_
            refine j_ci (rn_V G hW (ci := 11) (n := 3) (As := [.int x1, .int x2, .int (2 : Int32)]) (rest := [.int x1, .ref a0, .int r15]) (c_X10_of K hW l a0 x1 x2 (2 : Int32) k0 I J B _ h) k0 (by decide) rfl ml_X10_54 im_X10_of se_X10_of in_X10 co_X10_of rfl (by decide +kernel) rfl rfl (by decide) (by decide) rfl rfl (Nat.le_of_ble_eq_true rfl) dX10_excuse_97) (fun r16 _ h => ?_)
            refine j_aload_n G 0 0 dX10_excuse_100 rfl rfl ?_
            refine j_iload_n G 1 1 dX10_excuse_101 rfl rfl ?_
            refine j_iload_n G 2 2 dX10_excuse_102 rfl rfl ?_
            refine j_iconst G (3 : Int32) dX10_excuse_103 (by decide) ?_
            refine j_ci (rn_V G hW (ci := 11) (n := 3) (As := [.int x1, .int x2, .int (3 : Int32)]) (rest := [.int r16, .int x1, .ref a0, .int r15]) (c_X10_of K hW l a0 x1 x2 (3 : Int32) k0 I J B _ h) k0 (by decide) rfl ml_X10_54 im_X10_of se_X10_of in_X10 co_X10_of rfl (by decide +kernel) rfl rfl (by decide) (by decide) rfl rfl (Nat.le_of_ble_eq_true rfl) dX10_excuse_104) (fun r17 _ h => ?_)
            refine j_ci (rn_V G hW (ci := 11) (n := 3) (As := [.int x1, .int r16, .int r17]) (rest := [.int r15]) (c_X10_sends K hW l a0 x1 r16 r17 k0 I J B _ h) k0 (by decide) rfl ml_X10_73 im_X10_sends se_X10_sends in_X10 co_X10_sends rfl (by decide +kernel) rfl rfl (by decide) (by decide) rfl rfl (Nat.le_of_ble_eq_true rfl) dX10_excuse_107) (fun r18 _ h => ?_)
            refine j_icmp_ge G 117 dX10_excuse_110 (by decide) (fun c19 => ?_) (fun c19 => ?_)
            · have h := h.1 c19
              refine j_iconst G (0 : Int32) dX10_excuse_117 (by decide) ?_
              exact j_reti G () rfl dX10_excuse_118 h rfl
            · have h := h.2 c19
              refine j_iconst G (2 : Int32) dX10_excuse_113 (by decide) ?_
              refine j_goto G 118 dX10_excuse_114 (by decide) ?_
              exact j_reti G () rfl dX10_excuse_118 h rfl
      · have h := h.2 c3
        refine j_aload_n G 0 0 dX10_excuse_56 rfl rfl ?_
        refine j_iload_n G 1 1 dX10_excuse_57 rfl rfl ?_
        refine j_iconst G (2 : Int32) dX10_excuse_58 (by decide) ?_
        refine j_ci (rn_V G hW (ci := 11) (n := 2) (As := [.int x1, .int (2 : Int32)]) (rest := []) (c_X10_isFull K hW l a0 x1 (2 : Int32) k0 I J B _ h) k0 (by decide) rfl ml_X10_138 im_X10_isFull se_X10_isFull in_X10 co_X10_isFull rfl (by decide +kernel) rfl rfl (by decide) (by decide) rfl rfl (Nat.le_of_ble_eq_true rfl) dX10_excuse_59) (fun r20 _ h => ?_)
        refine j_if_eq G 69 dX10_excuse_62 (by decide) (fun c21 => ?_) (fun c21 => ?_)
        · have h := h.1 c21
          refine j_iconst G (0 : Int32) dX10_excuse_69 (by decide) ?_
          exact j_reti G () rfl dX10_excuse_70 h rfl
        · have h := h.2 c21
          refine j_iconst G (4 : Int32) dX10_excuse_65 (by decide) ?_
          refine j_goto G 70 dX10_excuse_66 (by decide) ?_
          exact j_reti G () rfl dX10_excuse_70 h rfl
    · have h := h.2 c2
      refine j_aload_n G 0 0 dX10_excuse_35 rfl rfl ?_
      refine j_iload_n G 1 1 dX10_excuse_36 rfl rfl ?_
      refine j_iconst G (4 : Int32) dX10_excuse_37 (by decide) ?_
      refine j_ci (rn_V G hW (ci := 11) (n := 2) (As := [.int x1, .int (4 : Int32)]) (rest := []) (c_X10_inQueue K hW l a0 x1 (4 : Int32) k0 I J B _ h) k0 (by decide) rfl ml_X10_86 im_X10_inQueue se_X10_inQueue in_X10 co_X10_inQueue rfl (by decide +kernel) rfl rfl (by decide) (by decide) rfl rfl (Nat.le_of_ble_eq_true rfl) dX10_excuse_38) (fun r22 _ h => ?_)
      refine j_if_ne G 48 dX10_excuse_41 (by decide) (fun c23 => ?_) (fun c23 => ?_)
      · have h := h.1 c23
        refine j_iconst G (0 : Int32) dX10_excuse_48 (by decide) ?_
        exact j_reti G () rfl dX10_excuse_49 h rfl
      · have h := h.2 c23
        refine j_iconst G (3 : Int32) dX10_excuse_44 (by decide) ?_
        refine j_goto G 49 dX10_excuse_45 (by decide) ?_
        exact j_reti G () rfl dX10_excuse_49 h rfl
  · have h := h.2 c1
    refine j_aload_n G 0 0 dX10_excuse_5 rfl rfl ?_
    refine j_iload_n G 1 1 dX10_excuse_6 rfl rfl ?_
    refine j_iconst G (0 : Int32) dX10_excuse_7 (by decide) ?_
    refine j_ci (rn_V G hW (ci := 11) (n := 2) (As := [.int x1, .int (0 : Int32)]) (rest := []) (c_X10_inQueue K hW l a0 x1 (0 : Int32) k0 I J B _ h) k0 (by decide) rfl ml_X10_86 im_X10_inQueue se_X10_inQueue in_X10 co_X10_inQueue rfl (by decide +kernel) rfl rfl (by decide) (by decide) rfl rfl (Nat.le_of_ble_eq_true rfl) dX10_excuse_8) (fun r24 _ h => ?_)
    refine j_if_eq G 23 dX10_excuse_11 (by decide) (fun c25 => ?_) (fun c25 => ?_)
    · have h := h.1 c25
      refine j_iconst G (1 : Int32) dX10_excuse_23 (by decide) ?_
      refine j_goto G 28 dX10_excuse_24 (by decide) ?_
      exact j_reti G () rfl dX10_excuse_28 h rfl
    · have h := h.2 c25
      refine j_aload_n G 0 0 dX10_excuse_14 rfl rfl ?_
      refine j_iload_n G 1 1 dX10_excuse_15 rfl rfl ?_
      refine j_iconst G (0 : Int32) dX10_excuse_16 (by decide) ?_
      refine j_ci (rn_V G hW (ci := 11) (n := 2) (As := [.int x1, .int (0 : Int32)]) (rest := []) (c_X10_hasCome K hW l a0 x1 (0 : Int32) k0 I J B _ h) k0 (by decide) rfl ml_X10_150 im_X10_hasCome se_X10_hasCome in_X10 co_X10_hasCome rfl (by decide +kernel) rfl rfl (by decide) (by decide) rfl rfl (Nat.le_of_ble_eq_true rfl) dX10_excuse_17) (fun r26 _ h => ?_)
      refine j_if_ne G 27 dX10_excuse_20 (by decide) (fun c27 => ?_) (fun c27 => ?_)
      · have h := h.1 c27
        refine j_iconst G (0 : Int32) dX10_excuse_27 (by decide) ?_
        exact j_reti G () rfl dX10_excuse_28 h rfl
      · have h := h.2 c27
        refine j_iconst G (1 : Int32) dX10_excuse_23 (by decide) ?_
        refine j_goto G 28 dX10_excuse_24 (by decide) ?_
        exact j_reti G () rfl dX10_excuse_28 h rfl
