abbrev rm_X8_append : Room := { frames := 0, cells := 0, slots := 0, locals := 0 }
def w_X8_append_l3 (a0 : Nat) (x1 : Int32)   (Q : MI → Prop) (rec : Int32 → MI → Prop) (x2 : Int32) (I : MI) : Prop :=
((x2 < 0 → Q I) ∧
(¬ x2 < 0 → (((600 : Int32) ≤ (I a0 1) → Q I) ∧
(¬ (600 : Int32) ≤ (I a0 1) → (vp_in (I a0 1) 600 ∧
(∀ I5, I5 = ui I (a0 + 1) (ix (I a0 1)) (vp_nar .byte ((Int32.toInt8 (x1 >>> (x2 &&& 31))).toInt32)) →
(∀ I6, I6 = ui I5 a0 1 ((I5 a0 1) + (1 : Int32)) →
rec (x2 + (-8)) I6)))))))
set_option maxHeartbeats 4000000 in
set_option maxRecDepth 100000 in
theorem m_X8_append_l3 {K : Kx} {l : Launch} {m : MethodId} {H0 : Heap} {Q : MI → Prop} {w : HW} {J : MJ} {B : MR} (G : Gd l rm_X8_append K m RX8 cX8_append 3 H0 none (va_Qv (S := MI) Q (fun u t => HP K (u, J, B) t.heap) (AA K)) w) (hW : WFK K) (a0 : Nat) (x1 : Int32) (x2 : Int32) (ka0 : (kG K a0).1 = 10) (I : MI)   (h : Lp2 (w_X8_append_l3 a0 x1 Q) x2 I) : Jg K m 3 H0 w 3 [(0, .ref a0), (1, .int x1), (2, .int x2)] [] (I, J, B) := by
  obtain ⟨n, h⟩ := h
  refine lpN2_ind (P := (fun (x2 : Int32) (I : MI) => Jg K m 3 H0 w 3 [(0, .ref a0), (1, .int x1), (2, .int x2)] [] (I, J, B))) (fun rec hrec x2 I h => ?_) n x2 I h
  unfold w_X8_append_l3 at h
  refine j_iload_n G 2 2 dX8_append_3 rfl rfl ?_
  refine j_if_lt G 46 dX8_append_4 (by decide) (fun c1 => ?_) (fun c1 => ?_)
  · have h := h.1 c1
    exact j_retv G I dX8_append_46 h rfl
  · have h := h.2 c1
    refine j_aload_n G 0 0 dX8_append_7 rfl rfl ?_
    refine j_get G hW 9 1 0 (.int (I a0 1)) ka0 (by decide) rfl (by decide) rfl lay_X8 fl_X8_26 rfl rfl dX8_append_8 ?_
    refine j_sipush G (600 : Int32) dX8_append_11 (by decide) ?_
    refine j_icmp_ge G 46 dX8_append_14 (by decide) (fun c2 => ?_) (fun c2 => ?_)
    · have h := h.1 c2
      exact j_retv G I dX8_append_46 h rfl
    · have h := h.2 c2
      refine j_aload_n G 0 0 dX8_append_17 rfl rfl ?_
      have kk3 : kG K (a0 + 1) = (21, 600) := wk_10_1 hW ka0
      refine j_get G hW 9 0 4 (.ref (a0 + 1)) ka0 (by decide) rfl (by decide) rfl lay_X8 fl_X8_9 rfl rfl dX8_append_18 ?_
      refine j_aload_n G 0 0 dX8_append_21 rfl rfl ?_
      refine j_get G hW 9 1 0 (.int (I a0 1)) ka0 (by decide) rfl (by decide) rfl lay_X8 fl_X8_26 rfl rfl dX8_append_22 ?_
      refine j_iload_n G 1 1 dX8_append_25 rfl rfl ?_
      refine j_iload_n G 2 2 dX8_append_26 rfl rfl ?_
      refine j_ishr G dX8_append_27 ?_
      refine j_i2b G dX8_append_28 ?_
      obtain ⟨b4, h⟩ := h
      refine j_bast G hW kk3 b4 dX8_append_29 ?_
      refine j_mI (fun I5 eI5 => ?_)
      have h := h I5 eI5
      refine j_aload_n G 0 0 dX8_append_30 rfl rfl ?_
      refine j_dup G rfl dX8_append_31 ?_
      refine j_get G hW 9 1 0 (.int (I5 a0 1)) ka0 (by decide) rfl (by decide) rfl lay_X8 fl_X8_26 rfl rfl dX8_append_32 ?_
      refine j_iconst G (1 : Int32) dX8_append_35 (by decide) ?_
      refine j_iadd G dX8_append_36 ?_
      refine j_put G hW 9 1 tyX8 (tyX8 1) tyX8_ok nmX8 ka0 (by decide) rfl (by decide) rfl lay_X8 fl_X8_26 rfl rfl (tyX8_ok 1 (by decide)) rfl rfl dX8_append_37 ?_
      refine j_mI (fun I6 eI6 => ?_)
      have h := h I6 eI6
      refine j_iinc G 2 (x2 + (-8)) [(2, .int (x2 + (-8))), (0, .ref a0), (1, .int x1)] dX8_append_40 rfl rfl (by decide) rfl ?_
      refine j_goto G 3 dX8_append_43 (by decide) ?_
      exact Jg.sub [1, 2, 0] rfl (hrec (x2 + (-8)) I6 h)
def w_X8_append (a0 : Nat) (x1 : Int32) (I : MI) (Q : MI → Prop) : Prop :=
Lp2 (w_X8_append_l3 a0 x1 Q) (24 : Int32) I
set_option maxHeartbeats 4000000 in
set_option maxRecDepth 100000 in
theorem c_X8_append (K : Kx) (hW : WFK K) (l : Launch) (a0 : Nat) (x1 : Int32) (k0 : (kG K a0).1 = 10) (I : MI) (J : MJ) (B : MR) (Q : MI → Prop) (h : w_X8_append a0 x1 I Q) : Con K l yX8_append (wsT yX8_append cX8_append 3 none) rm_X8_append [.ref a0, .int x1] (I, J, B) (va_Qv (S := MI) Q (fun u t => HP K (u, J, B) t.heap) (AA K)) := by
  refine Con.ofJ RX8 rfl (by decide) (Nat.le_of_ble_eq_true rfl) (fun m H0 w G => ?_)
  unfold w_X8_append at h
  show Jg K m 3 H0 w 0 [(0, .ref a0), (1, .int x1)] [] (I, J, B)
  refine j_bipush G (24 : Int32) dX8_append_0 (by decide) ?_
  refine j_istore_n G 2 [(2, .int (24 : Int32)), (0, .ref a0), (1, .int x1)] dX8_append_2 rfl (by decide) rfl ?_
  refine Jg.sub [1, 2, 0] rfl (m_X8_append_l3 G hW a0 x1 (24 : Int32) k0 I h)
abbrev rm_X8_copyFrom : Room := { frames := 3, cells := 0, slots := 0, locals := 92 }
def w_X8_copyFrom (a0 : Nat) (a1 : Nat) (I : MI) (Q : MI → Prop) : Prop :=
((∀ j, j < 600 → fits .byte (.int (I (a1 + 1) j)) = true) ∧
(∀ I4, I4 = uc I (a1 + 1) (a0 + 1) 600 →
(∀ I5, I5 = ui I4 a0 1 (I4 a1 1) →
(∀ I6, I6 = ui I5 a0 2 (I5 a1 2) →
(∀ I7, I7 = ui I6 a0 3 (I6 a1 3) →
(w_X1_copyFrom (a0 + 2) (a1 + 2) I7 (fun I10 =>
Q I10)))))))
set_option maxHeartbeats 4000000 in
set_option maxRecDepth 100000 in
theorem c_X8_copyFrom (K : Kx) (hW : WFK K) (l : Launch) (a0 : Nat) (a1 : Nat) (k0 : (kG K a0).1 = 10) (k1 : (kG K a1).1 = 10) (I : MI) (J : MJ) (B : MR) (Q : MI → Prop) (h : w_X8_copyFrom a0 a1 I Q) : Con K l yX8_copyFrom (wsT yX8_copyFrom cX8_copyFrom 2 none) rm_X8_copyFrom [.ref a0, .ref a1] (I, J, B) (va_Qv (S := MI) Q (fun u t => HP K (u, J, B) t.heap) (AA K)) := by
  refine Con.ofJ RX8 rfl (by decide) (Nat.le_of_ble_eq_true rfl) (fun m H0 w G => ?_)
  unfold w_X8_copyFrom at h
  show Jg K m 2 H0 w 0 [(0, .ref a0), (1, .ref a1)] [] (I, J, B)
  refine j_aload_n G 1 1 dX8_copyFrom_0 rfl rfl ?_
  have kk1 : kG K (a1 + 1) = (21, 600) := wk_10_1 hW k1
  refine j_get G hW 9 0 4 (.ref (a1 + 1)) k1 (by decide) rfl (by decide) rfl lay_X8 fl_X8_9 rfl rfl dX8_copyFrom_1 ?_
  refine j_iconst G (0 : Int32) dX8_copyFrom_4 (by decide) ?_
  refine j_aload_n G 0 0 dX8_copyFrom_5 rfl rfl ?_
  have kk2 : kG K (a0 + 1) = (21, 600) := wk_10_1 hW k0
  refine j_get G hW 9 0 4 (.ref (a0 + 1)) k0 (by decide) rfl (by decide) rfl lay_X8 fl_X8_9 rfl rfl dX8_copyFrom_6 ?_
  refine j_iconst G (0 : Int32) dX8_copyFrom_9 (by decide) ?_
  refine j_sipush G (600 : Int32) dX8_copyFrom_10 (by decide) ?_
  obtain ⟨q3, h⟩ := h
  refine j_copyb G hW 600 kk1 kk2 (by decide) (by decide) (by decide) (by decide) ml_X8_29 nat_copy st_copy in_J10 q3 (by decide) (by decide) (Nat.le_of_ble_eq_true rfl) dX8_copyFrom_13 ?_
  refine j_mI (fun I4 eI4 => ?_)
  have h := h I4 eI4
  refine j_aload_n G 0 0 dX8_copyFrom_16 rfl rfl ?_
  refine j_aload_n G 1 1 dX8_copyFrom_17 rfl rfl ?_
  refine j_get G hW 9 1 0 (.int (I4 a1 1)) k1 (by decide) rfl (by decide) rfl lay_X8 fl_X8_26 rfl rfl dX8_copyFrom_18 ?_
  refine j_put G hW 9 1 tyX8 (tyX8 1) tyX8_ok nmX8 k0 (by decide) rfl (by decide) rfl lay_X8 fl_X8_26 rfl rfl (tyX8_ok 1 (by decide)) rfl rfl dX8_copyFrom_21 ?_
  refine j_mI (fun I5 eI5 => ?_)
  have h := h I5 eI5
  refine j_aload_n G 0 0 dX8_copyFrom_24 rfl rfl ?_
  refine j_aload_n G 1 1 dX8_copyFrom_25 rfl rfl ?_
  refine j_get G hW 9 2 0 (.int (I5 a1 2)) k1 (by decide) rfl (by decide) rfl lay_X8 fl_X8_35 rfl rfl dX8_copyFrom_26 ?_
  refine j_put G hW 9 2 tyX8 (tyX8 2) tyX8_ok nmX8 k0 (by decide) rfl (by decide) rfl lay_X8 fl_X8_35 rfl rfl (tyX8_ok 2 (by decide)) rfl rfl dX8_copyFrom_29 ?_
  refine j_mI (fun I6 eI6 => ?_)
  have h := h I6 eI6
  refine j_aload_n G 0 0 dX8_copyFrom_32 rfl rfl ?_
  refine j_aload_n G 1 1 dX8_copyFrom_33 rfl rfl ?_
  refine j_get G hW 9 3 0 (.int (I6 a1 3)) k1 (by decide) rfl (by decide) rfl lay_X8 fl_X8_15 rfl rfl dX8_copyFrom_34 ?_
  refine j_put G hW 9 3 tyX8 (tyX8 3) tyX8_ok nmX8 k0 (by decide) rfl (by decide) rfl lay_X8 fl_X8_15 rfl rfl (tyX8_ok 3 (by decide)) rfl rfl dX8_copyFrom_37 ?_
  refine j_mI (fun I7 eI7 => ?_)
  have h := h I7 eI7
  refine j_aload_n G 0 0 dX8_copyFrom_40 rfl rfl ?_
  have kk8 : kG K (a0 + 2) = (3, 0) := wk_10_2 hW k0
  refine j_get G hW 9 4 5 (.ref (a0 + 2)) k0 (by decide) rfl (by decide) rfl lay_X8 fl_X8_22 rfl rfl dX8_copyFrom_41 ?_
  refine j_aload_n G 1 1 dX8_copyFrom_44 rfl rfl ?_
  have kk9 : kG K (a1 + 2) = (3, 0) := wk_10_2 hW k1
  refine j_get G hW 9 4 5 (.ref (a1 + 2)) k1 (by decide) rfl (by decide) rfl lay_X8 fl_X8_22 rfl rfl dX8_copyFrom_45 ?_
  refine j_cv (rn_V G hW (ci := 2) (n := 1) (As := [.ref (a1 + 2)]) (rest := []) (c_X1_copyFrom K hW l (a0 + 2) (a1 + 2) (congrArg Prod.fst kk8) (congrArg Prod.fst kk9) I7 J B _ h) (congrArg Prod.fst kk8) (by decide) rfl ml_X8_38 im_X1_copyFrom se_X1_copyFrom in_X1 co_X1_copyFrom rfl (by decide +kernel) rfl rfl (by decide) (by decide) rfl rfl (Nat.le_of_ble_eq_true rfl) dX8_copyFrom_48) (fun I10 h => ?_)
  exact j_retv G I10 dX8_copyFrom_51 h rfl
abbrev rm_X9_feed : Room := { frames := 1, cells := 0, slots := 0, locals := 22 }
def w_X9_feed (a0 : Nat) (x1 : Int32) (x2 : Int32) (x3 : Int32) (x4 : Int32) (x5 : Int32) (I : MI) (Q : Int32 → MI → Prop) : Prop :=
((((I (a0 + 1) 1) + (20 : Int32)) ≤ (600 : Int32) → (w_X8_append (a0 + 1) x1 I (fun I3 =>
(w_X8_append (a0 + 1) x2 I3 (fun I4 =>
(w_X8_append (a0 + 1) x3 I4 (fun I5 =>
(w_X8_append (a0 + 1) x4 I5 (fun I6 =>
(w_X8_append (a0 + 1) x5 I6 (fun I7 =>
Q (I7 (a0 + 1) 1) I7))))))))))) ∧
(¬ ((I (a0 + 1) 1) + (20 : Int32)) ≤ (600 : Int32) → Q (-1 : Int32) I))
set_option maxHeartbeats 4000000 in
set_option maxRecDepth 100000 in
theorem c_X9_feed (K : Kx) (hW : WFK K) (l : Launch) (a0 : Nat) (x1 : Int32) (x2 : Int32) (x3 : Int32) (x4 : Int32) (x5 : Int32) (k0 : (kG K a0).1 = 11) (I : MI) (J : MJ) (B : MR) (Q : Int32 → MI → Prop) (h : w_X9_feed a0 x1 x2 x3 x4 x5 I Q) : Con K l yX9_feed (wsT yX9_feed cX9_feed 6 (some .int)) rm_X9_feed [.ref a0, .int x1, .int x2, .int x3, .int x4, .int x5] (I, J, B) (va_Qi (S := MI) Q (fun u t => HP K (u, J, B) t.heap) (AA K)) := by
  refine Con.ofJ RX9 rfl (by decide) (Nat.le_of_ble_eq_true rfl) (fun m H0 w G => ?_)
  unfold w_X9_feed at h
  show Jg K m 6 H0 w 0 [(0, .ref a0), (1, .int x1), (2, .int x2), (3, .int x3), (4, .int x4), (5, .int x5)] [] (I, J, B)
  refine j_aload_n G 0 0 dX9_feed_0 rfl rfl ?_
  have kk1 : kG K (a0 + 1) = (10, 0) := wk_11_1 hW k0
  refine j_get G hW 10 0 4 (.ref (a0 + 1)) k0 (by decide) rfl (by decide) rfl lay_X9 fl_X9_12 rfl rfl dX9_feed_1 ?_
  refine j_get G hW 9 1 0 (.int (I (a0 + 1) 1)) (congrArg Prod.fst kk1) (by decide) rfl (by decide) rfl lay_X8 fl_X9_64 rfl rfl dX9_feed_4 ?_
  refine j_bipush G (20 : Int32) dX9_feed_7 (by decide) ?_
  refine j_iadd G dX9_feed_9 ?_
  refine j_sipush G (600 : Int32) dX9_feed_10 (by decide) ?_
  refine j_icmp_le G 18 dX9_feed_13 (by decide) (fun c2 => ?_) (fun c2 => ?_)
  · have h := h.1 c2
    refine j_aload_n G 0 0 dX9_feed_18 rfl rfl ?_
    refine j_get G hW 10 0 4 (.ref (a0 + 1)) k0 (by decide) rfl (by decide) rfl lay_X9 fl_X9_12 rfl rfl dX9_feed_19 ?_
    refine j_iload_n G 1 1 dX9_feed_22 rfl rfl ?_
    refine j_cv (rn_V G hW (ci := 9) (n := 1) (As := [.int x1]) (rest := []) (c_X8_append K hW l (a0 + 1) x1 (congrArg Prod.fst kk1) I J B _ h) (congrArg Prod.fst kk1) (by decide) rfl ml_X9_68 im_X8_append se_X8_append in_X8 co_X8_append rfl (by decide +kernel) rfl rfl (by decide) (by decide) rfl rfl (Nat.le_of_ble_eq_true rfl) dX9_feed_23) (fun I3 h => ?_)
    refine j_aload_n G 0 0 dX9_feed_26 rfl rfl ?_
    refine j_get G hW 10 0 4 (.ref (a0 + 1)) k0 (by decide) rfl (by decide) rfl lay_X9 fl_X9_12 rfl rfl dX9_feed_27 ?_
    refine j_iload_n G 2 2 dX9_feed_30 rfl rfl ?_
    refine j_cv (rn_V G hW (ci := 9) (n := 1) (As := [.int x2]) (rest := []) (c_X8_append K hW l (a0 + 1) x2 (congrArg Prod.fst kk1) I3 J B _ h) (congrArg Prod.fst kk1) (by decide) rfl ml_X9_68 im_X8_append se_X8_append in_X8 co_X8_append rfl (by decide +kernel) rfl rfl (by decide) (by decide) rfl rfl (Nat.le_of_ble_eq_true rfl) dX9_feed_31) (fun I4 h => ?_)
    refine j_aload_n G 0 0 dX9_feed_34 rfl rfl ?_
    refine j_get G hW 10 0 4 (.ref (a0 + 1)) k0 (by decide) rfl (by decide) rfl lay_X9 fl_X9_12 rfl rfl dX9_feed_35 ?_
    refine j_iload_n G 3 3 dX9_feed_38 rfl rfl ?_
    refine j_cv (rn_V G hW (ci := 9) (n := 1) (As := [.int x3]) (rest := []) (c_X8_append K hW l (a0 + 1) x3 (congrArg Prod.fst kk1) I4 J B _ h) (congrArg Prod.fst kk1) (by decide) rfl ml_X9_68 im_X8_append se_X8_append in_X8 co_X8_append rfl (by decide +kernel) rfl rfl (by decide) (by decide) rfl rfl (Nat.le_of_ble_eq_true rfl) dX9_feed_39) (fun I5 h => ?_)
    refine j_aload_n G 0 0 dX9_feed_42 rfl rfl ?_
    refine j_get G hW 10 0 4 (.ref (a0 + 1)) k0 (by decide) rfl (by decide) rfl lay_X9 fl_X9_12 rfl rfl dX9_feed_43 ?_
    refine j_iload G 4 dX9_feed_46 rfl ?_
    refine j_cv (rn_V G hW (ci := 9) (n := 1) (As := [.int x4]) (rest := []) (c_X8_append K hW l (a0 + 1) x4 (congrArg Prod.fst kk1) I5 J B _ h) (congrArg Prod.fst kk1) (by decide) rfl ml_X9_68 im_X8_append se_X8_append in_X8 co_X8_append rfl (by decide +kernel) rfl rfl (by decide) (by decide) rfl rfl (Nat.le_of_ble_eq_true rfl) dX9_feed_48) (fun I6 h => ?_)
    refine j_aload_n G 0 0 dX9_feed_51 rfl rfl ?_
    refine j_get G hW 10 0 4 (.ref (a0 + 1)) k0 (by decide) rfl (by decide) rfl lay_X9 fl_X9_12 rfl rfl dX9_feed_52 ?_
    refine j_iload G 5 dX9_feed_55 rfl ?_
    refine j_cv (rn_V G hW (ci := 9) (n := 1) (As := [.int x5]) (rest := []) (c_X8_append K hW l (a0 + 1) x5 (congrArg Prod.fst kk1) I6 J B _ h) (congrArg Prod.fst kk1) (by decide) rfl ml_X9_68 im_X8_append se_X8_append in_X8 co_X8_append rfl (by decide +kernel) rfl rfl (by decide) (by decide) rfl rfl (Nat.le_of_ble_eq_true rfl) dX9_feed_57) (fun I7 h => ?_)
    refine j_aload_n G 0 0 dX9_feed_60 rfl rfl ?_
    refine j_get G hW 10 0 4 (.ref (a0 + 1)) k0 (by decide) rfl (by decide) rfl lay_X9 fl_X9_12 rfl rfl dX9_feed_61 ?_
    refine j_get G hW 9 1 0 (.int (I7 (a0 + 1) 1)) (congrArg Prod.fst kk1) (by decide) rfl (by decide) rfl lay_X8 fl_X9_64 rfl rfl dX9_feed_64 ?_
    exact j_reti G I7 rfl dX9_feed_67 h rfl
  · have h := h.2 c2
    refine j_iconst G (-1 : Int32) dX9_feed_16 (by decide) ?_
    exact j_reti G I rfl dX9_feed_17 h rfl
abbrev rm_X9_end : Room := { frames := 0, cells := 0, slots := 0, locals := 0 }
def w_X9_end (a0 : Nat) (x1 : Int32) (I : MI) (Q : Int32 → MI → Prop) : Prop :=
((x1 < 0 → Q (-1 : Int32) I) ∧
(¬ x1 < 0 → ((x1 ≤ (I (a0 + 1) 1) → (∀ I4, I4 = ui I (a0 + 1) 1 x1 →
Q x1 I4)) ∧
(¬ x1 ≤ (I (a0 + 1) 1) → Q (-1 : Int32) I))))
set_option maxHeartbeats 4000000 in
set_option maxRecDepth 100000 in
theorem c_X9_end (K : Kx) (hW : WFK K) (l : Launch) (a0 : Nat) (x1 : Int32) (k0 : (kG K a0).1 = 11) (I : MI) (J : MJ) (B : MR) (Q : Int32 → MI → Prop) (h : w_X9_end a0 x1 I Q) : Con K l yX9_end (wsT yX9_end cX9_end 2 (some .int)) rm_X9_end [.ref a0, .int x1] (I, J, B) (va_Qi (S := MI) Q (fun u t => HP K (u, J, B) t.heap) (AA K)) := by
  refine Con.ofJ RX9 rfl (by decide) (Nat.le_of_ble_eq_true rfl) (fun m H0 w G => ?_)
  unfold w_X9_end at h
  show Jg K m 2 H0 w 0 [(0, .ref a0), (1, .int x1)] [] (I, J, B)
  refine j_iload_n G 1 1 dX9_end_0 rfl rfl ?_
  refine j_if_lt G 15 dX9_end_1 (by decide) (fun c1 => ?_) (fun c1 => ?_)
  · have h := h.1 c1
    refine j_iconst G (-1 : Int32) dX9_end_15 (by decide) ?_
    exact j_reti G I rfl dX9_end_16 h rfl
  · have h := h.2 c1
    refine j_iload_n G 1 1 dX9_end_4 rfl rfl ?_
    refine j_aload_n G 0 0 dX9_end_5 rfl rfl ?_
    have kk2 : kG K (a0 + 1) = (10, 0) := wk_11_1 hW k0
    refine j_get G hW 10 0 4 (.ref (a0 + 1)) k0 (by decide) rfl (by decide) rfl lay_X9 fl_X9_12 rfl rfl dX9_end_6 ?_
    refine j_get G hW 9 1 0 (.int (I (a0 + 1) 1)) (congrArg Prod.fst kk2) (by decide) rfl (by decide) rfl lay_X8 fl_X9_64 rfl rfl dX9_end_9 ?_
    refine j_icmp_le G 17 dX9_end_12 (by decide) (fun c3 => ?_) (fun c3 => ?_)
    · have h := h.1 c3
      refine j_aload_n G 0 0 dX9_end_17 rfl rfl ?_
      refine j_get G hW 10 0 4 (.ref (a0 + 1)) k0 (by decide) rfl (by decide) rfl lay_X9 fl_X9_12 rfl rfl dX9_end_18 ?_
      refine j_iload_n G 1 1 dX9_end_21 rfl rfl ?_
      refine j_put G hW 9 1 tyX8 (tyX8 1) tyX8_ok nmX8 (congrArg Prod.fst kk2) (by decide) rfl (by decide) rfl lay_X8 fl_X9_64 rfl rfl (tyX8_ok 1 (by decide)) rfl rfl dX9_end_22 ?_
      refine j_mI (fun I4 eI4 => ?_)
      have h := h I4 eI4
      refine j_iload_n G 1 1 dX9_end_25 rfl rfl ?_
      exact j_reti G I4 rfl dX9_end_26 h rfl
    · have h := h.2 c3
      refine j_iconst G (-1 : Int32) dX9_end_15 (by decide) ?_
      exact j_reti G I rfl dX9_end_16 h rfl
abbrev rm_X9_program : Room := { frames := 10, cells := 0, slots := 0, locals := 227 }
def w_X9_program (a0 : Nat) (I : MI) (B : MR) (Q : Int32 → MI → MR → Prop) : Prop :=
(w_X4_read (a0 + 68) (a0 + 2) (I (a0 + 1) 1) I B (fun I4 B5 =>
(∀ I6, I6 = ui I4 (a0 + 1) 1 (0 : Int32) →
(∀ I7, I7 = ui I6 (a0 + 1) 2 (I6 (a0 + 68) 1) →
(∀ I8, I8 = ui I7 (a0 + 1) 3 (I7 (a0 + 68) 2) →
(((I8 (a0 + 68) 1) = 0 → (w_X2_copyFrom (a0 + 4) (a0 + 69) I8 (fun I13 =>
(w_X2_split (a0 + 4) I13 (fun I14 =>
(w_X1_toBeginning (a0 + 3) I14 (fun I15 =>
Q (I15 (a0 + 4) 1) I15 B5))))))) ∧
(¬ (I8 (a0 + 68) 1) = 0 → Q (-1 : Int32) I8 B5)))))))
set_option maxHeartbeats 4000000 in
set_option maxRecDepth 100000 in
theorem c_X9_program (K : Kx) (hW : WFK K) (l : Launch) (a0 : Nat) (k0 : (kG K a0).1 = 11) (I : MI) (J : MJ) (B : MR) (Q : Int32 → MI → MR → Prop) (h : w_X9_program a0 I B Q) : Con K l yX9_program (wsT yX9_program cX9_program 1 (some .int)) rm_X9_program [.ref a0] (I, J, B) (va_Qi (S := (MI × MR)) (fun r u => Q r u.1 u.2) (fun u t => HP K (u.1, J, u.2) t.heap) (AA K)) := by
  refine Con.ofJ RX9 rfl (by decide) (Nat.le_of_ble_eq_true rfl) (fun m H0 w G => ?_)
  unfold w_X9_program at h
  show Jg K m 1 H0 w 0 [(0, .ref a0)] [] (I, J, B)
  refine j_aload_n G 0 0 dX9_program_0 rfl rfl ?_
  have kk1 : kG K (a0 + 68) = (6, 0) := wk_11_68 hW k0
  refine j_get G hW 10 3 71 (.ref (a0 + 68)) k0 (by decide) rfl (by decide) rfl lay_X9 fl_X9_27 rfl rfl dX9_program_1 ?_
  refine j_aload_n G 0 0 dX9_program_4 rfl rfl ?_
  have kk2 : kG K (a0 + 1) = (10, 0) := wk_11_1 hW k0
  refine j_get G hW 10 0 4 (.ref (a0 + 1)) k0 (by decide) rfl (by decide) rfl lay_X9 fl_X9_12 rfl rfl dX9_program_5 ?_
  have kk3 : kG K (a0 + 2) = (21, 600) := wk_10_1 hW (congrArg Prod.fst kk2)
  refine j_get G hW 9 0 4 (.ref (a0 + 2)) (congrArg Prod.fst kk2) (by decide) rfl (by decide) rfl lay_X8 fl_X9_72 rfl rfl dX9_program_8 ?_
  refine j_aload_n G 0 0 dX9_program_11 rfl rfl ?_
  refine j_get G hW 10 0 4 (.ref (a0 + 1)) k0 (by decide) rfl (by decide) rfl lay_X9 fl_X9_12 rfl rfl dX9_program_12 ?_
  refine j_get G hW 9 1 0 (.int (I (a0 + 1) 1)) (congrArg Prod.fst kk2) (by decide) rfl (by decide) rfl lay_X8 fl_X9_64 rfl rfl dX9_program_15 ?_
  refine j_cv (rn_V G hW (ci := 5) (n := 2) (As := [.ref (a0 + 2), .int (I (a0 + 1) 1)]) (rest := []) (c_X4_read K hW l (a0 + 68) (a0 + 2) (I (a0 + 1) 1) (congrArg Prod.fst kk1) kk3 I J B _ h) (congrArg Prod.fst kk1) (by decide) rfl ml_X9_76 im_X4_read se_X4_read in_X4 co_X4_read rfl (by decide +kernel) rfl rfl (by decide) (by decide) rfl rfl (Nat.le_of_ble_eq_true rfl) dX9_program_18) (fun ⟨I4, B5⟩ h => ?_)
  refine j_aload_n G 0 0 dX9_program_21 rfl rfl ?_
  refine j_get G hW 10 0 4 (.ref (a0 + 1)) k0 (by decide) rfl (by decide) rfl lay_X9 fl_X9_12 rfl rfl dX9_program_22 ?_
  refine j_iconst G (0 : Int32) dX9_program_25 (by decide) ?_
  refine j_put G hW 9 1 tyX8 (tyX8 1) tyX8_ok nmX8 (congrArg Prod.fst kk2) (by decide) rfl (by decide) rfl lay_X8 fl_X9_64 rfl rfl (tyX8_ok 1 (by decide)) rfl rfl dX9_program_26 ?_
  refine j_mI (fun I6 eI6 => ?_)
  have h := h I6 eI6
  refine j_aload_n G 0 0 dX9_program_29 rfl rfl ?_
  refine j_get G hW 10 0 4 (.ref (a0 + 1)) k0 (by decide) rfl (by decide) rfl lay_X9 fl_X9_12 rfl rfl dX9_program_30 ?_
  refine j_aload_n G 0 0 dX9_program_33 rfl rfl ?_
  refine j_get G hW 10 3 71 (.ref (a0 + 68)) k0 (by decide) rfl (by decide) rfl lay_X9 fl_X9_27 rfl rfl dX9_program_34 ?_
  refine j_get G hW 5 1 0 (.int (I6 (a0 + 68) 1)) (congrArg Prod.fst kk1) (by decide) rfl (by decide) rfl lay_X4 fl_X9_80 rfl rfl dX9_program_37 ?_
  refine j_put G hW 9 2 tyX8 (tyX8 2) tyX8_ok nmX8 (congrArg Prod.fst kk2) (by decide) rfl (by decide) rfl lay_X8 fl_X9_83 rfl rfl (tyX8_ok 2 (by decide)) rfl rfl dX9_program_40 ?_
  refine j_mI (fun I7 eI7 => ?_)
  have h := h I7 eI7
  refine j_aload_n G 0 0 dX9_program_43 rfl rfl ?_
  refine j_get G hW 10 0 4 (.ref (a0 + 1)) k0 (by decide) rfl (by decide) rfl lay_X9 fl_X9_12 rfl rfl dX9_program_44 ?_
  refine j_aload_n G 0 0 dX9_program_47 rfl rfl ?_
  refine j_get G hW 10 3 71 (.ref (a0 + 68)) k0 (by decide) rfl (by decide) rfl lay_X9 fl_X9_27 rfl rfl dX9_program_48 ?_
  refine j_get G hW 5 2 0 (.int (I7 (a0 + 68) 2)) (congrArg Prod.fst kk1) (by decide) rfl (by decide) rfl lay_X4 fl_X9_84 rfl rfl dX9_program_51 ?_
  refine j_put G hW 9 3 tyX8 (tyX8 3) tyX8_ok nmX8 (congrArg Prod.fst kk2) (by decide) rfl (by decide) rfl lay_X8 fl_X9_87 rfl rfl (tyX8_ok 3 (by decide)) rfl rfl dX9_program_54 ?_
  refine j_mI (fun I8 eI8 => ?_)
  have h := h I8 eI8
  refine j_aload_n G 0 0 dX9_program_57 rfl rfl ?_
  refine j_get G hW 10 3 71 (.ref (a0 + 68)) k0 (by decide) rfl (by decide) rfl lay_X9 fl_X9_27 rfl rfl dX9_program_58 ?_
  refine j_get G hW 5 1 0 (.int (I8 (a0 + 68) 1)) (congrArg Prod.fst kk1) (by decide) rfl (by decide) rfl lay_X4 fl_X9_80 rfl rfl dX9_program_61 ?_
  refine j_if_eq G 69 dX9_program_64 (by decide) (fun c9 => ?_) (fun c9 => ?_)
  · have h := h.1 c9
    refine j_aload_n G 0 0 dX9_program_69 rfl rfl ?_
    refine j_get G hW 10 0 4 (.ref (a0 + 1)) k0 (by decide) rfl (by decide) rfl lay_X9 fl_X9_12 rfl rfl dX9_program_70 ?_
    have kk10 : kG K (a0 + 3) = (3, 0) := wk_10_2 hW (congrArg Prod.fst kk2)
    refine j_get G hW 9 4 5 (.ref (a0 + 3)) (congrArg Prod.fst kk2) (by decide) rfl (by decide) rfl lay_X8 fl_X9_52 rfl rfl dX9_program_73 ?_
    have kk11 : kG K (a0 + 4) = (4, 0) := wk_3_1 hW (congrArg Prod.fst kk10)
    refine j_get G hW 2 0 4 (.ref (a0 + 4)) (congrArg Prod.fst kk10) (by decide) rfl (by decide) rfl lay_X1 fl_X9_55 rfl rfl dX9_program_76 ?_
    refine j_aload_n G 0 0 dX9_program_79 rfl rfl ?_
    refine j_get G hW 10 3 71 (.ref (a0 + 68)) k0 (by decide) rfl (by decide) rfl lay_X9 fl_X9_27 rfl rfl dX9_program_80 ?_
    have kk12 : kG K (a0 + 69) = (4, 0) := wk_6_1 hW (congrArg Prod.fst kk1)
    refine j_get G hW 5 0 4 (.ref (a0 + 69)) (congrArg Prod.fst kk1) (by decide) rfl (by decide) rfl lay_X4 fl_X9_88 rfl rfl dX9_program_83 ?_
    refine j_cv (rn_V G hW (ci := 3) (n := 1) (As := [.ref (a0 + 69)]) (rest := []) (c_X2_copyFrom K hW l (a0 + 4) (a0 + 69) (congrArg Prod.fst kk11) (congrArg Prod.fst kk12) I8 J B5 _ h) (congrArg Prod.fst kk11) (by decide) rfl ml_X9_91 im_X2_copyFrom se_X2_copyFrom in_X2 co_X2_copyFrom rfl (by decide +kernel) rfl rfl (by decide) (by decide) rfl rfl (Nat.le_of_ble_eq_true rfl) dX9_program_86) (fun I13 h => ?_)
    refine j_aload_n G 0 0 dX9_program_89 rfl rfl ?_
    refine j_get G hW 10 0 4 (.ref (a0 + 1)) k0 (by decide) rfl (by decide) rfl lay_X9 fl_X9_12 rfl rfl dX9_program_90 ?_
    refine j_get G hW 9 4 5 (.ref (a0 + 3)) (congrArg Prod.fst kk2) (by decide) rfl (by decide) rfl lay_X8 fl_X9_52 rfl rfl dX9_program_93 ?_
    refine j_get G hW 2 0 4 (.ref (a0 + 4)) (congrArg Prod.fst kk10) (by decide) rfl (by decide) rfl lay_X1 fl_X9_55 rfl rfl dX9_program_96 ?_
    refine j_cv (rn_V G hW (ci := 3) (n := 0) (As := []) (rest := []) (c_X2_split K hW l (a0 + 4) (congrArg Prod.fst kk11) I13 J B5 _ h) (congrArg Prod.fst kk11) (by decide) rfl ml_X9_59 im_X2_split se_X2_split in_X2 co_X2_split rfl (by decide +kernel) rfl rfl (by decide) (by decide) rfl rfl (Nat.le_of_ble_eq_true rfl) dX9_program_99) (fun I14 h => ?_)
    refine j_aload_n G 0 0 dX9_program_102 rfl rfl ?_
    refine j_get G hW 10 0 4 (.ref (a0 + 1)) k0 (by decide) rfl (by decide) rfl lay_X9 fl_X9_12 rfl rfl dX9_program_103 ?_
    refine j_get G hW 9 4 5 (.ref (a0 + 3)) (congrArg Prod.fst kk2) (by decide) rfl (by decide) rfl lay_X8 fl_X9_52 rfl rfl dX9_program_106 ?_
    refine j_cv (rn_V G hW (ci := 2) (n := 0) (As := []) (rest := []) (c_X1_toBeginning K hW l (a0 + 3) (congrArg Prod.fst kk10) I14 J B5 _ h) (congrArg Prod.fst kk10) (by decide) rfl ml_X9_95 im_X1_toBeginning se_X1_toBeginning in_X1 co_X1_toBeginning rfl (by decide +kernel) rfl rfl (by decide) (by decide) rfl rfl (Nat.le_of_ble_eq_true rfl) dX9_program_109) (fun I15 h => ?_)
    refine j_aload_n G 0 0 dX9_program_112 rfl rfl ?_
    refine j_get G hW 10 0 4 (.ref (a0 + 1)) k0 (by decide) rfl (by decide) rfl lay_X9 fl_X9_12 rfl rfl dX9_program_113 ?_
    refine j_get G hW 9 4 5 (.ref (a0 + 3)) (congrArg Prod.fst kk2) (by decide) rfl (by decide) rfl lay_X8 fl_X9_52 rfl rfl dX9_program_116 ?_
    refine j_get G hW 2 0 4 (.ref (a0 + 4)) (congrArg Prod.fst kk10) (by decide) rfl (by decide) rfl lay_X1 fl_X9_55 rfl rfl dX9_program_119 ?_
    refine j_get G hW 3 1 0 (.int (I15 (a0 + 4) 1)) (congrArg Prod.fst kk11) (by decide) rfl (by decide) rfl lay_X2 fl_X9_98 rfl rfl dX9_program_122 ?_
    exact j_reti G (I15, B5) rfl dX9_program_125 h rfl
  · have h := h.2 c9
    refine j_iconst G (-1 : Int32) dX9_program_67 (by decide) ?_
    exact j_reti G (I8, B5) rfl dX9_program_68 h rfl
abbrev rm_X9_fault : Room := { frames := 0, cells := 0, slots := 0, locals := 0 }
def w_X9_fault (a0 : Nat) (x1 : Int32) (I : MI) (Q : Int32 →  Prop) : Prop :=
((x1 = (0 : Int32) → Q (I (a0 + 1) 2)) ∧
(x1 = (1 : Int32) → Q (I (a0 + 1) 3)) ∧
(¬ x1 = (0 : Int32) → ¬ x1 = (1 : Int32) → Q (-1 : Int32)))
set_option maxHeartbeats 4000000 in
set_option maxRecDepth 100000 in
theorem c_X9_fault (K : Kx) (hW : WFK K) (l : Launch) (a0 : Nat) (x1 : Int32) (k0 : (kG K a0).1 = 11) (I : MI) (J : MJ) (B : MR) (Q : Int32 →  Prop) (h : w_X9_fault a0 x1 I Q) : Con K l yX9_fault (wsT yX9_fault cX9_fault 2 (some .int)) rm_X9_fault [.ref a0, .int x1] (I, J, B) (va_Qi (S := Unit) (fun r _ => Q r) (fun u t => HP K (I, J, B) t.heap) (AA K)) := by
  refine Con.ofJ RX9 rfl (by decide) (Nat.le_of_ble_eq_true rfl) (fun m H0 w G => ?_)
  unfold w_X9_fault at h
  show Jg K m 2 H0 w 0 [(0, .ref a0), (1, .int x1)] [] (I, J, B)
  refine j_iload_n G 1 1 dX9_fault_0 rfl rfl ?_
  by_cases c3 : x1 = (0 : Int32)
  · have h := h.1 (c3)
    refine j_lookup G 28 dX9_fault_1 (by decide) (by rw [c3] <;> rfl) (by decide) ?_
    refine j_aload_n G 0 0 dX9_fault_28 rfl rfl ?_
    have kk1 : kG K (a0 + 1) = (10, 0) := wk_11_1 hW k0
    refine j_get G hW 10 0 4 (.ref (a0 + 1)) k0 (by decide) rfl (by decide) rfl lay_X9 fl_X9_12 rfl rfl dX9_fault_29 ?_
    refine j_get G hW 9 2 0 (.int (I (a0 + 1) 2)) (congrArg Prod.fst kk1) (by decide) rfl (by decide) rfl lay_X8 fl_X9_83 rfl rfl dX9_fault_32 ?_
    exact j_reti G () rfl dX9_fault_35 h rfl
  · skip
    by_cases c4 : x1 = (1 : Int32)
    · have h := h.2.1 (c4)
      refine j_lookup G 36 dX9_fault_1 (by decide) (by rw [c4] <;> rfl) (by decide) ?_
      refine j_aload_n G 0 0 dX9_fault_36 rfl rfl ?_
      have kk2 : kG K (a0 + 1) = (10, 0) := wk_11_1 hW k0
      refine j_get G hW 10 0 4 (.ref (a0 + 1)) k0 (by decide) rfl (by decide) rfl lay_X9 fl_X9_12 rfl rfl dX9_fault_37 ?_
      refine j_get G hW 9 3 0 (.int (I (a0 + 1) 3)) (congrArg Prod.fst kk2) (by decide) rfl (by decide) rfl lay_X8 fl_X9_87 rfl rfl dX9_fault_40 ?_
      exact j_reti G () rfl dX9_fault_43 h rfl
    · skip
      have h := h.2.2 c3 c4
      have nc3 := sw_ne (n := 0) rfl c3
      have nc4 := sw_ne (n := 1) rfl c4
      refine j_lookup G 44 dX9_fault_1 (by decide) (by simp [Op.lookupswitch.offset, nc3, Ne.symm nc3, nc4, Ne.symm nc4]; first | done | rfl) (by decide) ?_
      refine j_iconst G (-1 : Int32) dX9_fault_44 (by decide) ?_
      exact j_reti G () rfl dX9_fault_45 h rfl
abbrev rm_X9_cycles : Room := { frames := 6, cells := 0, slots := 0, locals := 135 }
def w_X9_cycles (a0 : Nat) (x1 : Int32) (I : MI) (Q : Int32 → MI → Prop) : Prop :=
((x1 < (1 : Int32) → Q (-1 : Int32) I) ∧
(¬ x1 < (1 : Int32) → ((x1 ≤ (50 : Int32) → (w_X1_goOn (a0 + 3) x1 I (fun r5 I6 =>
Q r5 I6))) ∧
(¬ x1 ≤ (50 : Int32) → Q (-1 : Int32) I))))
set_option maxHeartbeats 4000000 in
set_option maxRecDepth 100000 in
theorem c_X9_cycles (K : Kx) (hW : WFK K) (l : Launch) (a0 : Nat) (x1 : Int32) (k0 : (kG K a0).1 = 11) (I : MI) (J : MJ) (B : MR) (Q : Int32 → MI → Prop) (h : w_X9_cycles a0 x1 I Q) : Con K l yX9_cycles (wsT yX9_cycles cX9_cycles 2 (some .int)) rm_X9_cycles [.ref a0, .int x1] (I, J, B) (va_Qi (S := MI) Q (fun u t => HP K (u, J, B) t.heap) (AA K)) := by
  refine Con.ofJ RX9 rfl (by decide) (Nat.le_of_ble_eq_true rfl) (fun m H0 w G => ?_)
  unfold w_X9_cycles at h
  show Jg K m 2 H0 w 0 [(0, .ref a0), (1, .int x1)] [] (I, J, B)
  refine j_iload_n G 1 1 dX9_cycles_0 rfl rfl ?_
  refine j_iconst G (1 : Int32) dX9_cycles_1 (by decide) ?_
  refine j_icmp_lt G 11 dX9_cycles_2 (by decide) (fun c1 => ?_) (fun c1 => ?_)
  · have h := h.1 c1
    refine j_iconst G (-1 : Int32) dX9_cycles_11 (by decide) ?_
    exact j_reti G I rfl dX9_cycles_12 h rfl
  · have h := h.2 c1
    refine j_iload_n G 1 1 dX9_cycles_5 rfl rfl ?_
    refine j_bipush G (50 : Int32) dX9_cycles_6 (by decide) ?_
    refine j_icmp_le G 13 dX9_cycles_8 (by decide) (fun c2 => ?_) (fun c2 => ?_)
    · have h := h.1 c2
      refine j_aload_n G 0 0 dX9_cycles_13 rfl rfl ?_
      have kk3 : kG K (a0 + 1) = (10, 0) := wk_11_1 hW k0
      refine j_get G hW 10 0 4 (.ref (a0 + 1)) k0 (by decide) rfl (by decide) rfl lay_X9 fl_X9_12 rfl rfl dX9_cycles_14 ?_
      have kk4 : kG K (a0 + 3) = (3, 0) := wk_10_2 hW (congrArg Prod.fst kk3)
      refine j_get G hW 9 4 5 (.ref (a0 + 3)) (congrArg Prod.fst kk3) (by decide) rfl (by decide) rfl lay_X8 fl_X9_52 rfl rfl dX9_cycles_17 ?_
      refine j_iload_n G 1 1 dX9_cycles_20 rfl rfl ?_
      refine j_ci (rn_V G hW (ci := 2) (n := 1) (As := [.int x1]) (rest := []) (c_X1_goOn K hW l (a0 + 3) x1 (congrArg Prod.fst kk4) I J B _ h) (congrArg Prod.fst kk4) (by decide) rfl ml_X9_101 im_X1_goOn se_X1_goOn in_X1 co_X1_goOn rfl (by decide +kernel) rfl rfl (by decide) (by decide) rfl rfl (Nat.le_of_ble_eq_true rfl) dX9_cycles_21) (fun r5 I6 h => ?_)
      exact j_reti G I6 rfl dX9_cycles_24 h rfl
    · have h := h.2 c2
      refine j_iconst G (-1 : Int32) dX9_cycles_11 (by decide) ?_
      exact j_reti G I rfl dX9_cycles_12 h rfl
abbrev rm_X9_begin : Room := { frames := 3, cells := 0, slots := 0, locals := 69 }
def w_X9_begin (a0 : Nat) (I : MI) (Q : MI → Prop) : Prop :=
(w_X1_toBeginning (a0 + 3) I (fun I3 =>
Q I3))
set_option maxHeartbeats 4000000 in
set_option maxRecDepth 100000 in
theorem c_X9_begin (K : Kx) (hW : WFK K) (l : Launch) (a0 : Nat) (k0 : (kG K a0).1 = 11) (I : MI) (J : MJ) (B : MR) (Q : MI → Prop) (h : w_X9_begin a0 I Q) : Con K l yX9_begin (wsT yX9_begin cX9_begin 1 none) rm_X9_begin [.ref a0] (I, J, B) (va_Qv (S := MI) Q (fun u t => HP K (u, J, B) t.heap) (AA K)) := by
  refine Con.ofJ RX9 rfl (by decide) (Nat.le_of_ble_eq_true rfl) (fun m H0 w G => ?_)
  unfold w_X9_begin at h
  show Jg K m 1 H0 w 0 [(0, .ref a0)] [] (I, J, B)
  refine j_aload_n G 0 0 dX9_begin_0 rfl rfl ?_
  have kk1 : kG K (a0 + 1) = (10, 0) := wk_11_1 hW k0
  refine j_get G hW 10 0 4 (.ref (a0 + 1)) k0 (by decide) rfl (by decide) rfl lay_X9 fl_X9_12 rfl rfl dX9_begin_1 ?_
  have kk2 : kG K (a0 + 3) = (3, 0) := wk_10_2 hW (congrArg Prod.fst kk1)
  refine j_get G hW 9 4 5 (.ref (a0 + 3)) (congrArg Prod.fst kk1) (by decide) rfl (by decide) rfl lay_X8 fl_X9_52 rfl rfl dX9_begin_4 ?_
  refine j_cv (rn_V G hW (ci := 2) (n := 0) (As := []) (rest := []) (c_X1_toBeginning K hW l (a0 + 3) (congrArg Prod.fst kk2) I J B _ h) (congrArg Prod.fst kk2) (by decide) rfl ml_X9_95 im_X1_toBeginning se_X1_toBeginning in_X1 co_X1_toBeginning rfl (by decide +kernel) rfl rfl (by decide) (by decide) rfl rfl (Nat.le_of_ble_eq_true rfl) dX9_begin_7) (fun I3 h => ?_)
  exact j_retv G I3 dX9_begin_10 h rfl
abbrev rm_X9_room : Room := { frames := 1, cells := 0, slots := 0, locals := 20 }
def w_X9_room (a0 : Nat) (x1 : Int32) (x2 : Int32) (I : MI) (Q : Int32 → MI → Prop) : Prop :=
(w_X9_isQueue x1 (fun r1 =>
((r1 = 0 → Q (0 : Int32) I) ∧
(¬ r1 = 0 → ((x2 < (1 : Int32) → Q (0 : Int32) I) ∧
(¬ x2 < (1 : Int32) → ((x2 ≤ (6 : Int32) → (vp_in x1 6 ∧
(∀ I10, I10 = ui I (a0 + 42 + 3 * ix x1) 4 x2 →
Q (1 : Int32) I10))) ∧
(¬ x2 ≤ (6 : Int32) → Q (0 : Int32) I))))))))
set_option maxHeartbeats 4000000 in
set_option maxRecDepth 100000 in
theorem c_X9_room (K : Kx) (hW : WFK K) (l : Launch) (a0 : Nat) (x1 : Int32) (x2 : Int32) (k0 : (kG K a0).1 = 11) (I : MI) (J : MJ) (B : MR) (Q : Int32 → MI → Prop) (h : w_X9_room a0 x1 x2 I Q) : Con K l yX9_room (wsT yX9_room cX9_room 3 (some .boolean)) rm_X9_room [.ref a0, .int x1, .int x2] (I, J, B) (va_Qi (S := MI) Q (fun u t => HP K (u, J, B) t.heap) (AA K)) := by
  refine Con.ofJ RX9 rfl (by decide) (Nat.le_of_ble_eq_true rfl) (fun m H0 w G => ?_)
  unfold w_X9_room at h
  show Jg K m 3 H0 w 0 [(0, .ref a0), (1, .int x1), (2, .int x2)] [] (I, J, B)
  refine j_iload_n G 1 1 dX9_room_0 rfl rfl ?_
  refine j_ci (rn_S G (n := 1) (As := [.int x1]) (rest := []) (c_X9_isQueue K hW l x1 I J B _ h) ml_X9_105 st_X9_isQueue in_X9 co_X9_isQueue (by decide +kernel) rfl rfl (by decide) (by decide) rfl rfl (Nat.le_of_ble_eq_true rfl) dX9_room_1) (fun r1 _ h => ?_)
  refine j_if_eq G 18 dX9_room_4 (by decide) (fun c2 => ?_) (fun c2 => ?_)
  · have h := h.1 c2
    refine j_iconst G (0 : Int32) dX9_room_18 (by decide) ?_
    exact j_reti G I (by decide) dX9_room_19 h rfl
  · have h := h.2 c2
    refine j_iload_n G 2 2 dX9_room_7 rfl rfl ?_
    refine j_iconst G (1 : Int32) dX9_room_8 (by decide) ?_
    refine j_icmp_lt G 18 dX9_room_9 (by decide) (fun c3 => ?_) (fun c3 => ?_)
    · have h := h.1 c3
      refine j_iconst G (0 : Int32) dX9_room_18 (by decide) ?_
      exact j_reti G I (by decide) dX9_room_19 h rfl
    · have h := h.2 c3
      refine j_iload_n G 2 2 dX9_room_12 rfl rfl ?_
      refine j_bipush G (6 : Int32) dX9_room_13 (by decide) ?_
      refine j_icmp_le G 20 dX9_room_15 (by decide) (fun c4 => ?_) (fun c4 => ?_)
      · have h := h.1 c4
        refine j_aload_n G 0 0 dX9_room_20 rfl rfl ?_
        have kk5 : kG K (a0 + 1) = (10, 0) := wk_11_1 hW k0
        refine j_get G hW 10 0 4 (.ref (a0 + 1)) k0 (by decide) rfl (by decide) rfl lay_X9 fl_X9_12 rfl rfl dX9_room_21 ?_
        have kk6 : kG K (a0 + 3) = (3, 0) := wk_10_2 hW (congrArg Prod.fst kk5)
        refine j_get G hW 9 4 5 (.ref (a0 + 3)) (congrArg Prod.fst kk5) (by decide) rfl (by decide) rfl lay_X8 fl_X9_52 rfl rfl dX9_room_24 ?_
        have kk7 : kG K (a0 + 40) = (25, 6) := wk_3_37 hW (congrArg Prod.fst kk6)
        refine j_get G hW 2 3 40 (.ref (a0 + 40)) (congrArg Prod.fst kk6) (by decide) rfl (by decide) rfl lay_X1 fl_X9_109 rfl rfl dX9_room_27 ?_
        refine j_iload_n G 1 1 dX9_room_30 rfl rfl ?_
        obtain ⟨b8, h⟩ := h
        have kk9 : (kG K (a0 + 42 + 3 * ix x1)).1 = 5 := wk_a25 (i := x1) hW kk7 b8 (ad2 rfl)
        refine j_aald25 G hW (i := x1) (b := a0 + 42 + 3 * ix x1) kk7 b8 (ad2 rfl) dX9_room_31 ?_
        refine j_iload_n G 2 2 dX9_room_32 rfl rfl ?_
        refine j_put G hW 4 4 tyX3 (tyX3 4) tyX3_ok nmX3 kk9 (by decide) rfl (by decide) rfl lay_X3 fl_X9_113 rfl rfl (tyX3_ok 4 (by decide)) rfl rfl dX9_room_33 ?_
        refine j_mI (fun I10 eI10 => ?_)
        have h := h I10 eI10
        refine j_iconst G (1 : Int32) dX9_room_36 (by decide) ?_
        exact j_reti G I10 (by decide) dX9_room_37 h rfl
      · have h := h.2 c4
        refine j_iconst G (0 : Int32) dX9_room_18 (by decide) ?_
        exact j_reti G I (by decide) dX9_room_19 h rfl
abbrev rm_X9_figureOf : Room := { frames := 2, cells := 0, slots := 0, locals := 41 }
def w_X9_figureOf (a0 : Nat) (a1 : Nat) (x2 : Int32) (I : MI) (Q : Int32 →  Prop) : Prop :=
((¬ x2 = (10 : Int32) → (w_X1_figure a1 x2 I (fun r2 =>
Q r2))) ∧
(x2 = (10 : Int32) → Q (I (a0 + 1) 1)))
set_option maxHeartbeats 4000000 in
set_option maxRecDepth 100000 in
theorem c_X9_figureOf (K : Kx) (hW : WFK K) (l : Launch) (a0 : Nat) (a1 : Nat) (x2 : Int32) (k0 : (kG K a0).1 = 11) (k1 : (kG K a1).1 = 3) (I : MI) (J : MJ) (B : MR) (Q : Int32 →  Prop) (h : w_X9_figureOf a0 a1 x2 I Q) : Con K l yX9_figureOf (wsT yX9_figureOf cX9_figureOf 3 (some .int)) rm_X9_figureOf [.ref a0, .ref a1, .int x2] (I, J, B) (va_Qi (S := Unit) (fun r _ => Q r) (fun u t => HP K (I, J, B) t.heap) (AA K)) := by
  refine Con.ofJ RX9 rfl (by decide) (Nat.le_of_ble_eq_true rfl) (fun m H0 w G => ?_)
  unfold w_X9_figureOf at h
  show Jg K m 3 H0 w 0 [(0, .ref a0), (1, .ref a1), (2, .int x2)] [] (I, J, B)
  refine j_iload_n G 2 2 dX9_figureOf_0 rfl rfl ?_
  refine j_bipush G (10 : Int32) dX9_figureOf_1 (by decide) ?_
  refine j_icmp_ne G 16 dX9_figureOf_3 (by decide) (fun c1 => ?_) (fun c1 => ?_)
  · have h := h.1 c1
    refine j_aload_n G 1 1 dX9_figureOf_16 rfl rfl ?_
    refine j_iload_n G 2 2 dX9_figureOf_17 rfl rfl ?_
    refine j_ci (rn_V G hW (ci := 2) (n := 1) (As := [.int x2]) (rest := []) (c_X1_figure K hW l a1 x2 k1 I J B _ h) k1 (by decide) rfl ml_X9_242 im_X1_figure se_X1_figure in_X1 co_X1_figure rfl (by decide +kernel) rfl rfl (by decide) (by decide) rfl rfl (Nat.le_of_ble_eq_true rfl) dX9_figureOf_18) (fun r2 _ h => ?_)
    exact j_reti G () rfl dX9_figureOf_21 h rfl
  · have h := h.2 c1
    refine j_aload_n G 0 0 dX9_figureOf_6 rfl rfl ?_
    have kk3 : kG K (a0 + 1) = (10, 0) := wk_11_1 hW k0
    refine j_get G hW 10 0 4 (.ref (a0 + 1)) k0 (by decide) rfl (by decide) rfl lay_X9 fl_X9_12 rfl rfl dX9_figureOf_7 ?_
    refine j_get G hW 9 1 0 (.int (I (a0 + 1) 1)) (congrArg Prod.fst kk3) (by decide) rfl (by decide) rfl lay_X8 fl_X9_64 rfl rfl dX9_figureOf_10 ?_
    refine j_goto G 21 dX9_figureOf_13 (by decide) ?_
    exact j_reti G () rfl dX9_figureOf_21 h rfl
abbrev rm_X9_count : Room := { frames := 3, cells := 0, slots := 0, locals := 63 }
def w_X9_count (a0 : Nat) (x1 : Int32) (I : MI) (Q : Int32 →  Prop) : Prop :=
(w_X9_figureOf a0 (a0 + 3) x1 I (fun r3 =>
Q r3))
set_option maxHeartbeats 4000000 in
set_option maxRecDepth 100000 in
theorem c_X9_count (K : Kx) (hW : WFK K) (l : Launch) (a0 : Nat) (x1 : Int32) (k0 : (kG K a0).1 = 11) (I : MI) (J : MJ) (B : MR) (Q : Int32 →  Prop) (h : w_X9_count a0 x1 I Q) : Con K l yX9_count (wsT yX9_count cX9_count 2 (some .int)) rm_X9_count [.ref a0, .int x1] (I, J, B) (va_Qi (S := Unit) (fun r _ => Q r) (fun u t => HP K (I, J, B) t.heap) (AA K)) := by
  refine Con.ofJ RX9 rfl (by decide) (Nat.le_of_ble_eq_true rfl) (fun m H0 w G => ?_)
  unfold w_X9_count at h
  show Jg K m 2 H0 w 0 [(0, .ref a0), (1, .int x1)] [] (I, J, B)
  refine j_aload_n G 0 0 dX9_count_0 rfl rfl ?_
  refine j_aload_n G 0 0 dX9_count_1 rfl rfl ?_
  have kk1 : kG K (a0 + 1) = (10, 0) := wk_11_1 hW k0
  refine j_get G hW 10 0 4 (.ref (a0 + 1)) k0 (by decide) rfl (by decide) rfl lay_X9 fl_X9_12 rfl rfl dX9_count_2 ?_
  have kk2 : kG K (a0 + 3) = (3, 0) := wk_10_2 hW (congrArg Prod.fst kk1)
  refine j_get G hW 9 4 5 (.ref (a0 + 3)) (congrArg Prod.fst kk1) (by decide) rfl (by decide) rfl lay_X8 fl_X9_52 rfl rfl dX9_count_5 ?_
  refine j_iload_n G 1 1 dX9_count_8 rfl rfl ?_
  refine j_ci (rn_V G hW (ci := 10) (n := 2) (As := [.ref (a0 + 3), .int x1]) (rest := []) (c_X9_figureOf K hW l a0 (a0 + 3) x1 k0 (congrArg Prod.fst kk2) I J B _ h) k0 (by decide) rfl ml_X9_118 im_X9_figureOf se_X9_figureOf in_X9 co_X9_figureOf rfl (by decide +kernel) rfl rfl (by decide) (by decide) rfl rfl (Nat.le_of_ble_eq_true rfl) dX9_count_9) (fun r3 _ h => ?_)
  exact j_reti G () rfl dX9_count_12 h rfl
abbrev rm_X9_side : Room := { frames := 3, cells := 0, slots := 0, locals := 65 }
def w_X9_side (a0 : Nat) (x1 : Int32) (x2 : Int32) (I : MI) (Q : Int32 →  Prop) : Prop :=
(w_X9_isSide x1 (fun r1 =>
((¬ r1 = 0 → ((¬ x2 = 0 → (vp_in x1 2 ∧
(w_X5_figure (a0 + 60 + 3 * ix x1) x2 I (fun r9 =>
Q r9)))) ∧
(x2 = 0 → (w_X2_deedsInAll (a0 + 4) x1 I (fun r13 =>
Q r13))))) ∧
(r1 = 0 → Q (-1 : Int32)))))
set_option maxHeartbeats 4000000 in
set_option maxRecDepth 100000 in
theorem c_X9_side (K : Kx) (hW : WFK K) (l : Launch) (a0 : Nat) (x1 : Int32) (x2 : Int32) (k0 : (kG K a0).1 = 11) (I : MI) (J : MJ) (B : MR) (Q : Int32 →  Prop) (h : w_X9_side a0 x1 x2 I Q) : Con K l yX9_side (wsT yX9_side cX9_side 3 (some .int)) rm_X9_side [.ref a0, .int x1, .int x2] (I, J, B) (va_Qi (S := Unit) (fun r _ => Q r) (fun u t => HP K (I, J, B) t.heap) (AA K)) := by
  refine Con.ofJ RX9 rfl (by decide) (Nat.le_of_ble_eq_true rfl) (fun m H0 w G => ?_)
  unfold w_X9_side at h
  show Jg K m 3 H0 w 0 [(0, .ref a0), (1, .int x1), (2, .int x2)] [] (I, J, B)
  refine j_iload_n G 1 1 dX9_side_0 rfl rfl ?_
  refine j_ci (rn_S G (n := 1) (As := [.int x1]) (rest := []) (c_X9_isSide K hW l x1 I J B _ h) ml_X9_122 st_X9_isSide in_X9 co_X9_isSide (by decide +kernel) rfl rfl (by decide) (by decide) rfl rfl (Nat.le_of_ble_eq_true rfl) dX9_side_1) (fun r1 _ h => ?_)
  refine j_if_ne G 9 dX9_side_4 (by decide) (fun c2 => ?_) (fun c2 => ?_)
  · have h := h.1 c2
    refine j_iload_n G 2 2 dX9_side_9 rfl rfl ?_
    refine j_if_ne G 28 dX9_side_10 (by decide) (fun c3 => ?_) (fun c3 => ?_)
    · have h := h.1 c3
      refine j_aload_n G 0 0 dX9_side_28 rfl rfl ?_
      have kk4 : kG K (a0 + 1) = (10, 0) := wk_11_1 hW k0
      refine j_get G hW 10 0 4 (.ref (a0 + 1)) k0 (by decide) rfl (by decide) rfl lay_X9 fl_X9_12 rfl rfl dX9_side_29 ?_
      have kk5 : kG K (a0 + 3) = (3, 0) := wk_10_2 hW (congrArg Prod.fst kk4)
      refine j_get G hW 9 4 5 (.ref (a0 + 3)) (congrArg Prod.fst kk4) (by decide) rfl (by decide) rfl lay_X8 fl_X9_52 rfl rfl dX9_side_32 ?_
      have kk6 : kG K (a0 + 41) = (26, 2) := wk_3_38 hW (congrArg Prod.fst kk5)
      refine j_get G hW 2 4 41 (.ref (a0 + 41)) (congrArg Prod.fst kk5) (by decide) rfl (by decide) rfl lay_X1 fl_X9_128 rfl rfl dX9_side_35 ?_
      refine j_iload_n G 1 1 dX9_side_38 rfl rfl ?_
      obtain ⟨b7, h⟩ := h
      have kk8 : (kG K (a0 + 60 + 3 * ix x1)).1 = 7 := wk_a26 (i := x1) hW kk6 b7 (ad2 rfl)
      refine j_aald26 G hW (i := x1) (b := a0 + 60 + 3 * ix x1) kk6 b7 (ad2 rfl) dX9_side_39 ?_
      refine j_iload_n G 2 2 dX9_side_40 rfl rfl ?_
      refine j_ci (rn_V G hW (ci := 6) (n := 1) (As := [.int x2]) (rest := []) (c_X5_figure K hW l (a0 + 60 + 3 * ix x1) x2 kk8 I J B _ h) kk8 (by decide) rfl ml_X9_132 im_X5_figure se_X5_figure in_X5 co_X5_figure rfl (by decide +kernel) rfl rfl (by decide) (by decide) rfl rfl (Nat.le_of_ble_eq_true rfl) dX9_side_41) (fun r9 _ h => ?_)
      exact j_reti G () rfl dX9_side_44 h rfl
    · have h := h.2 c3
      refine j_aload_n G 0 0 dX9_side_13 rfl rfl ?_
      have kk10 : kG K (a0 + 1) = (10, 0) := wk_11_1 hW k0
      refine j_get G hW 10 0 4 (.ref (a0 + 1)) k0 (by decide) rfl (by decide) rfl lay_X9 fl_X9_12 rfl rfl dX9_side_14 ?_
      have kk11 : kG K (a0 + 3) = (3, 0) := wk_10_2 hW (congrArg Prod.fst kk10)
      refine j_get G hW 9 4 5 (.ref (a0 + 3)) (congrArg Prod.fst kk10) (by decide) rfl (by decide) rfl lay_X8 fl_X9_52 rfl rfl dX9_side_17 ?_
      have kk12 : kG K (a0 + 4) = (4, 0) := wk_3_1 hW (congrArg Prod.fst kk11)
      refine j_get G hW 2 0 4 (.ref (a0 + 4)) (congrArg Prod.fst kk11) (by decide) rfl (by decide) rfl lay_X1 fl_X9_55 rfl rfl dX9_side_20 ?_
      refine j_iload_n G 1 1 dX9_side_23 rfl rfl ?_
      refine j_ci (rn_V G hW (ci := 3) (n := 1) (As := [.int x1]) (rest := []) (c_X2_deedsInAll K hW l (a0 + 4) x1 (congrArg Prod.fst kk12) I J B _ h) (congrArg Prod.fst kk12) (by decide) rfl ml_X9_125 im_X2_deedsInAll se_X2_deedsInAll in_X2 co_X2_deedsInAll rfl (by decide +kernel) rfl rfl (by decide) (by decide) rfl rfl (Nat.le_of_ble_eq_true rfl) dX9_side_24) (fun r13 _ h => ?_)
      exact j_reti G () rfl dX9_side_27 h rfl
  · have h := h.2 c2
    refine j_iconst G (-1 : Int32) dX9_side_7 (by decide) ?_
    exact j_reti G () rfl dX9_side_8 h rfl
abbrev rm_X9_deeds : Room := { frames := 2, cells := 0, slots := 0, locals := 42 }
def w_X9_deeds (a0 : Nat) (x1 : Int32) (x2 : Int32) (I : MI) (Q : Int32 →  Prop) : Prop :=
(w_X2_deedsAt (a0 + 4) x1 x2 I (fun r4 =>
Q r4))
set_option maxHeartbeats 4000000 in
set_option maxRecDepth 100000 in
theorem c_X9_deeds (K : Kx) (hW : WFK K) (l : Launch) (a0 : Nat) (x1 : Int32) (x2 : Int32) (k0 : (kG K a0).1 = 11) (I : MI) (J : MJ) (B : MR) (Q : Int32 →  Prop) (h : w_X9_deeds a0 x1 x2 I Q) : Con K l yX9_deeds (wsT yX9_deeds cX9_deeds 3 (some .int)) rm_X9_deeds [.ref a0, .int x1, .int x2] (I, J, B) (va_Qi (S := Unit) (fun r _ => Q r) (fun u t => HP K (I, J, B) t.heap) (AA K)) := by
  refine Con.ofJ RX9 rfl (by decide) (Nat.le_of_ble_eq_true rfl) (fun m H0 w G => ?_)
  unfold w_X9_deeds at h
  show Jg K m 3 H0 w 0 [(0, .ref a0), (1, .int x1), (2, .int x2)] [] (I, J, B)
  refine j_aload_n G 0 0 dX9_deeds_0 rfl rfl ?_
  have kk1 : kG K (a0 + 1) = (10, 0) := wk_11_1 hW k0
  refine j_get G hW 10 0 4 (.ref (a0 + 1)) k0 (by decide) rfl (by decide) rfl lay_X9 fl_X9_12 rfl rfl dX9_deeds_1 ?_
  have kk2 : kG K (a0 + 3) = (3, 0) := wk_10_2 hW (congrArg Prod.fst kk1)
  refine j_get G hW 9 4 5 (.ref (a0 + 3)) (congrArg Prod.fst kk1) (by decide) rfl (by decide) rfl lay_X8 fl_X9_52 rfl rfl dX9_deeds_4 ?_
  have kk3 : kG K (a0 + 4) = (4, 0) := wk_3_1 hW (congrArg Prod.fst kk2)
  refine j_get G hW 2 0 4 (.ref (a0 + 4)) (congrArg Prod.fst kk2) (by decide) rfl (by decide) rfl lay_X1 fl_X9_55 rfl rfl dX9_deeds_7 ?_
  refine j_iload_n G 1 1 dX9_deeds_10 rfl rfl ?_
  refine j_iload_n G 2 2 dX9_deeds_11 rfl rfl ?_
  refine j_ci (rn_V G hW (ci := 3) (n := 2) (As := [.int x1, .int x2]) (rest := []) (c_X2_deedsAt K hW l (a0 + 4) x1 x2 (congrArg Prod.fst kk3) I J B _ h) (congrArg Prod.fst kk3) (by decide) rfl ml_X9_137 im_X2_deedsAt se_X2_deedsAt in_X2 co_X2_deedsAt rfl (by decide +kernel) rfl rfl (by decide) (by decide) rfl rfl (Nat.le_of_ble_eq_true rfl) dX9_deeds_12) (fun r4 _ h => ?_)
  exact j_reti G () rfl dX9_deeds_15 h rfl
abbrev rm_X9_did : Room := { frames := 3, cells := 0, slots := 0, locals := 65 }
def w_X9_did (a0 : Nat) (x1 : Int32) (x2 : Int32) (x3 : Int32) (I : MI) (Q : Int32 →  Prop) : Prop :=
(w_X2_hasDeed (a0 + 4) x1 x2 x3 I (fun r4 =>
((¬ r4 = 0 → (vp_in x1 2 ∧
(vp_in ((x2 * (2 : Int32)) + x3) 50 ∧
Q (I ((a0 + 60 + 3 * ix x1) + 2) (ix ((x2 * (2 : Int32)) + x3)))))) ∧
(r4 = 0 → Q (-1 : Int32)))))
set_option maxHeartbeats 4000000 in
set_option maxRecDepth 100000 in
theorem c_X9_did (K : Kx) (hW : WFK K) (l : Launch) (a0 : Nat) (x1 : Int32) (x2 : Int32) (x3 : Int32) (k0 : (kG K a0).1 = 11) (I : MI) (J : MJ) (B : MR) (Q : Int32 →  Prop) (h : w_X9_did a0 x1 x2 x3 I Q) : Con K l yX9_did (wsT yX9_did cX9_did 4 (some .int)) rm_X9_did [.ref a0, .int x1, .int x2, .int x3] (I, J, B) (va_Qi (S := Unit) (fun r _ => Q r) (fun u t => HP K (I, J, B) t.heap) (AA K)) := by
  refine Con.ofJ RX9 rfl (by decide) (Nat.le_of_ble_eq_true rfl) (fun m H0 w G => ?_)
  unfold w_X9_did at h
  show Jg K m 4 H0 w 0 [(0, .ref a0), (1, .int x1), (2, .int x2), (3, .int x3)] [] (I, J, B)
  refine j_aload_n G 0 0 dX9_did_0 rfl rfl ?_
  have kk1 : kG K (a0 + 1) = (10, 0) := wk_11_1 hW k0
  refine j_get G hW 10 0 4 (.ref (a0 + 1)) k0 (by decide) rfl (by decide) rfl lay_X9 fl_X9_12 rfl rfl dX9_did_1 ?_
  have kk2 : kG K (a0 + 3) = (3, 0) := wk_10_2 hW (congrArg Prod.fst kk1)
  refine j_get G hW 9 4 5 (.ref (a0 + 3)) (congrArg Prod.fst kk1) (by decide) rfl (by decide) rfl lay_X8 fl_X9_52 rfl rfl dX9_did_4 ?_
  have kk3 : kG K (a0 + 4) = (4, 0) := wk_3_1 hW (congrArg Prod.fst kk2)
  refine j_get G hW 2 0 4 (.ref (a0 + 4)) (congrArg Prod.fst kk2) (by decide) rfl (by decide) rfl lay_X1 fl_X9_55 rfl rfl dX9_did_7 ?_
  refine j_iload_n G 1 1 dX9_did_10 rfl rfl ?_
  refine j_iload_n G 2 2 dX9_did_11 rfl rfl ?_
  refine j_iload_n G 3 3 dX9_did_12 rfl rfl ?_
  refine j_ci (rn_V G hW (ci := 3) (n := 3) (As := [.int x1, .int x2, .int x3]) (rest := []) (c_X2_hasDeed K hW l (a0 + 4) x1 x2 x3 (congrArg Prod.fst kk3) I J B _ h) (congrArg Prod.fst kk3) (by decide) rfl ml_X9_141 im_X2_hasDeed se_X2_hasDeed in_X2 co_X2_hasDeed rfl (by decide +kernel) rfl rfl (by decide) (by decide) rfl rfl (Nat.le_of_ble_eq_true rfl) dX9_did_13) (fun r4 _ h => ?_)
  refine j_if_ne G 21 dX9_did_16 (by decide) (fun c5 => ?_) (fun c5 => ?_)
  · have h := h.1 c5
    refine j_aload_n G 0 0 dX9_did_21 rfl rfl ?_
    refine j_get G hW 10 0 4 (.ref (a0 + 1)) k0 (by decide) rfl (by decide) rfl lay_X9 fl_X9_12 rfl rfl dX9_did_22 ?_
    refine j_get G hW 9 4 5 (.ref (a0 + 3)) (congrArg Prod.fst kk1) (by decide) rfl (by decide) rfl lay_X8 fl_X9_52 rfl rfl dX9_did_25 ?_
    have kk6 : kG K (a0 + 41) = (26, 2) := wk_3_38 hW (congrArg Prod.fst kk2)
    refine j_get G hW 2 4 41 (.ref (a0 + 41)) (congrArg Prod.fst kk2) (by decide) rfl (by decide) rfl lay_X1 fl_X9_128 rfl rfl dX9_did_28 ?_
    refine j_iload_n G 1 1 dX9_did_31 rfl rfl ?_
    obtain ⟨b7, h⟩ := h
    have kk8 : (kG K (a0 + 60 + 3 * ix x1)).1 = 7 := wk_a26 (i := x1) hW kk6 b7 (ad2 rfl)
    refine j_aald26 G hW (i := x1) (b := a0 + 60 + 3 * ix x1) kk6 b7 (ad2 rfl) dX9_did_32 ?_
    have kk9 : kG K ((a0 + 60 + 3 * ix x1) + 2) = (20, 50) := wk_7_2 hW kk8
    refine j_get G hW 6 8 5 (.ref ((a0 + 60 + 3 * ix x1) + 2)) kk8 (by decide) rfl (by decide) rfl lay_X5 fl_X9_159 rfl rfl dX9_did_33 ?_
    refine j_iload_n G 2 2 dX9_did_36 rfl rfl ?_
    refine j_iconst G (2 : Int32) dX9_did_37 (by decide) ?_
    refine j_imul G dX9_did_38 ?_
    refine j_iload_n G 3 3 dX9_did_39 rfl rfl ?_
    refine j_iadd G dX9_did_40 ?_
    obtain ⟨b10, h⟩ := h
    refine j_iald G hW kk9 b10 dX9_did_41 ?_
    exact j_reti G () rfl dX9_did_42 h rfl
  · have h := h.2 c5
    refine j_iconst G (-1 : Int32) dX9_did_19 (by decide) ?_
    exact j_reti G () rfl dX9_did_20 h rfl
abbrev rm_X9_queue : Room := { frames := 1, cells := 0, slots := 0, locals := 21 }
def w_X9_queue (a0 : Nat) (x1 : Int32) (x2 : Int32) (I : MI) (Q : Int32 →  Prop) : Prop :=
(w_X9_isQueue x1 (fun r1 =>
((¬ r1 = 0 → (vp_in x1 6 ∧
((¬ x2 = (-1 : Int32) → (w_X3_heldAt (a0 + 42 + 3 * ix x1) x2 I (fun r9 =>
Q r9))) ∧
(x2 = (-1 : Int32) → Q (I (a0 + 42 + 3 * ix x1) 3))))) ∧
(r1 = 0 → Q (-2 : Int32)))))
set_option maxHeartbeats 4000000 in
set_option maxRecDepth 100000 in
theorem c_X9_queue (K : Kx) (hW : WFK K) (l : Launch) (a0 : Nat) (x1 : Int32) (x2 : Int32) (k0 : (kG K a0).1 = 11) (I : MI) (J : MJ) (B : MR) (Q : Int32 →  Prop) (h : w_X9_queue a0 x1 x2 I Q) : Con K l yX9_queue (wsT yX9_queue cX9_queue 4 (some .int)) rm_X9_queue [.ref a0, .int x1, .int x2] (I, J, B) (va_Qi (S := Unit) (fun r _ => Q r) (fun u t => HP K (I, J, B) t.heap) (AA K)) := by
  refine Con.ofJ RX9 rfl (by decide) (Nat.le_of_ble_eq_true rfl) (fun m H0 w G => ?_)
  unfold w_X9_queue at h
  show Jg K m 4 H0 w 0 [(0, .ref a0), (1, .int x1), (2, .int x2)] [] (I, J, B)
  refine j_iload_n G 1 1 dX9_queue_0 rfl rfl ?_
  refine j_ci (rn_S G (n := 1) (As := [.int x1]) (rest := []) (c_X9_isQueue K hW l x1 I J B _ h) ml_X9_105 st_X9_isQueue in_X9 co_X9_isQueue (by decide +kernel) rfl rfl (by decide) (by decide) rfl rfl (Nat.le_of_ble_eq_true rfl) dX9_queue_1) (fun r1 _ h => ?_)
  refine j_if_ne G 10 dX9_queue_4 (by decide) (fun c2 => ?_) (fun c2 => ?_)
  · have h := h.1 c2
    refine j_aload_n G 0 0 dX9_queue_10 rfl rfl ?_
    have kk3 : kG K (a0 + 1) = (10, 0) := wk_11_1 hW k0
    refine j_get G hW 10 0 4 (.ref (a0 + 1)) k0 (by decide) rfl (by decide) rfl lay_X9 fl_X9_12 rfl rfl dX9_queue_11 ?_
    have kk4 : kG K (a0 + 3) = (3, 0) := wk_10_2 hW (congrArg Prod.fst kk3)
    refine j_get G hW 9 4 5 (.ref (a0 + 3)) (congrArg Prod.fst kk3) (by decide) rfl (by decide) rfl lay_X8 fl_X9_52 rfl rfl dX9_queue_14 ?_
    have kk5 : kG K (a0 + 40) = (25, 6) := wk_3_37 hW (congrArg Prod.fst kk4)
    refine j_get G hW 2 3 40 (.ref (a0 + 40)) (congrArg Prod.fst kk4) (by decide) rfl (by decide) rfl lay_X1 fl_X9_109 rfl rfl dX9_queue_17 ?_
    refine j_iload_n G 1 1 dX9_queue_20 rfl rfl ?_
    obtain ⟨b6, h⟩ := h
    have kk7 : (kG K (a0 + 42 + 3 * ix x1)).1 = 5 := wk_a25 (i := x1) hW kk5 b6 (ad2 rfl)
    refine j_aald25 G hW (i := x1) (b := a0 + 42 + 3 * ix x1) kk5 b6 (ad2 rfl) dX9_queue_21 ?_
    refine j_astore_n G 3 [(3, .ref (a0 + 42 + 3 * ix x1)), (0, .ref a0), (1, .int x1), (2, .int x2)] dX9_queue_22 rfl (by decide) rfl ?_
    refine j_iload_n G 3 2 dX9_queue_23 rfl rfl ?_
    refine j_iconst G (-1 : Int32) dX9_queue_24 (by decide) ?_
    refine j_icmp_ne G 35 dX9_queue_25 (by decide) (fun c8 => ?_) (fun c8 => ?_)
    · have h := h.1 c8
      refine j_aload_n G 0 3 dX9_queue_35 rfl rfl ?_
      refine j_iload_n G 3 2 dX9_queue_36 rfl rfl ?_
      refine j_ci (rn_V G hW (ci := 4) (n := 1) (As := [.int x2]) (rest := []) (c_X3_heldAt K hW l (a0 + 42 + 3 * ix x1) x2 kk7 I J B _ h) kk7 (by decide) rfl ml_X9_164 im_X3_heldAt se_X3_heldAt in_X3 co_X3_heldAt rfl (by decide +kernel) rfl rfl (by decide) (by decide) rfl rfl (Nat.le_of_ble_eq_true rfl) dX9_queue_37) (fun r9 _ h => ?_)
      exact j_reti G () rfl dX9_queue_40 h rfl
    · have h := h.2 c8
      refine j_aload_n G 0 3 dX9_queue_28 rfl rfl ?_
      refine j_get G hW 4 3 0 (.int (I (a0 + 42 + 3 * ix x1) 3)) kk7 (by decide) rfl (by decide) rfl lay_X3 fl_X9_163 rfl rfl dX9_queue_29 ?_
      refine j_goto G 40 dX9_queue_32 (by decide) ?_
      exact j_reti G () rfl dX9_queue_40 h rfl
  · have h := h.2 c2
    refine j_bipush G (-2 : Int32) dX9_queue_7 (by decide) ?_
    exact j_reti G () rfl dX9_queue_9 h rfl
abbrev rm_X9_roomOf : Room := { frames := 1, cells := 0, slots := 0, locals := 20 }
def w_X9_roomOf (a0 : Nat) (x1 : Int32) (I : MI) (Q : Int32 →  Prop) : Prop :=
(w_X9_isQueue x1 (fun r1 =>
((r1 = 0 → Q (-1 : Int32)) ∧
(¬ r1 = 0 → (vp_in x1 6 ∧
Q (I (a0 + 42 + 3 * ix x1) 4))))))
set_option maxHeartbeats 4000000 in
set_option maxRecDepth 100000 in
theorem c_X9_roomOf (K : Kx) (hW : WFK K) (l : Launch) (a0 : Nat) (x1 : Int32) (k0 : (kG K a0).1 = 11) (I : MI) (J : MJ) (B : MR) (Q : Int32 →  Prop) (h : w_X9_roomOf a0 x1 I Q) : Con K l yX9_roomOf (wsT yX9_roomOf cX9_roomOf 2 (some .int)) rm_X9_roomOf [.ref a0, .int x1] (I, J, B) (va_Qi (S := Unit) (fun r _ => Q r) (fun u t => HP K (I, J, B) t.heap) (AA K)) := by
  refine Con.ofJ RX9 rfl (by decide) (Nat.le_of_ble_eq_true rfl) (fun m H0 w G => ?_)
  unfold w_X9_roomOf at h
  show Jg K m 2 H0 w 0 [(0, .ref a0), (1, .int x1)] [] (I, J, B)
  refine j_iload_n G 1 1 dX9_roomOf_0 rfl rfl ?_
  refine j_ci (rn_S G (n := 1) (As := [.int x1]) (rest := []) (c_X9_isQueue K hW l x1 I J B _ h) ml_X9_105 st_X9_isQueue in_X9 co_X9_isQueue (by decide +kernel) rfl rfl (by decide) (by decide) rfl rfl (Nat.le_of_ble_eq_true rfl) dX9_roomOf_1) (fun r1 _ h => ?_)
  refine j_if_eq G 25 dX9_roomOf_4 (by decide) (fun c2 => ?_) (fun c2 => ?_)
  · have h := h.1 c2
    refine j_iconst G (-1 : Int32) dX9_roomOf_25 (by decide) ?_
    exact j_reti G () rfl dX9_roomOf_26 h rfl
  · have h := h.2 c2
    refine j_aload_n G 0 0 dX9_roomOf_7 rfl rfl ?_
    have kk3 : kG K (a0 + 1) = (10, 0) := wk_11_1 hW k0
    refine j_get G hW 10 0 4 (.ref (a0 + 1)) k0 (by decide) rfl (by decide) rfl lay_X9 fl_X9_12 rfl rfl dX9_roomOf_8 ?_
    have kk4 : kG K (a0 + 3) = (3, 0) := wk_10_2 hW (congrArg Prod.fst kk3)
    refine j_get G hW 9 4 5 (.ref (a0 + 3)) (congrArg Prod.fst kk3) (by decide) rfl (by decide) rfl lay_X8 fl_X9_52 rfl rfl dX9_roomOf_11 ?_
    have kk5 : kG K (a0 + 40) = (25, 6) := wk_3_37 hW (congrArg Prod.fst kk4)
    refine j_get G hW 2 3 40 (.ref (a0 + 40)) (congrArg Prod.fst kk4) (by decide) rfl (by decide) rfl lay_X1 fl_X9_109 rfl rfl dX9_roomOf_14 ?_
    refine j_iload_n G 1 1 dX9_roomOf_17 rfl rfl ?_
    obtain ⟨b6, h⟩ := h
    have kk7 : (kG K (a0 + 42 + 3 * ix x1)).1 = 5 := wk_a25 (i := x1) hW kk5 b6 (ad2 rfl)
    refine j_aald25 G hW (i := x1) (b := a0 + 42 + 3 * ix x1) kk5 b6 (ad2 rfl) dX9_roomOf_18 ?_
    refine j_get G hW 4 4 0 (.int (I (a0 + 42 + 3 * ix x1) 4)) kk7 (by decide) rfl (by decide) rfl lay_X3 fl_X9_113 rfl rfl dX9_roomOf_19 ?_
    refine j_goto G 26 dX9_roomOf_22 (by decide) ?_
    exact j_reti G () rfl dX9_roomOf_26 h rfl
abbrev rm_X9_cell : Room := { frames := 1, cells := 0, slots := 0, locals := 20 }
def w_X9_cell (a0 : Nat) (x1 : Int32) (I : MI) (Q : Int32 →  Prop) : Prop :=
(w_X9_isCell x1 (fun r1 =>
((r1 = 0 → Q (-1 : Int32)) ∧
(¬ r1 = 0 → (vp_in x1 32 ∧
Q (I (a0 + 39) (ix x1)))))))
set_option maxHeartbeats 4000000 in
set_option maxRecDepth 100000 in
theorem c_X9_cell (K : Kx) (hW : WFK K) (l : Launch) (a0 : Nat) (x1 : Int32) (k0 : (kG K a0).1 = 11) (I : MI) (J : MJ) (B : MR) (Q : Int32 →  Prop) (h : w_X9_cell a0 x1 I Q) : Con K l yX9_cell (wsT yX9_cell cX9_cell 2 (some .int)) rm_X9_cell [.ref a0, .int x1] (I, J, B) (va_Qi (S := Unit) (fun r _ => Q r) (fun u t => HP K (I, J, B) t.heap) (AA K)) := by
  refine Con.ofJ RX9 rfl (by decide) (Nat.le_of_ble_eq_true rfl) (fun m H0 w G => ?_)
  unfold w_X9_cell at h
  show Jg K m 2 H0 w 0 [(0, .ref a0), (1, .int x1)] [] (I, J, B)
  refine j_iload_n G 1 1 dX9_cell_0 rfl rfl ?_
  refine j_ci (rn_S G (n := 1) (As := [.int x1]) (rest := []) (c_X9_isCell K hW l x1 I J B _ h) ml_X9_167 st_X9_isCell in_X9 co_X9_isCell (by decide +kernel) rfl rfl (by decide) (by decide) rfl rfl (Nat.le_of_ble_eq_true rfl) dX9_cell_1) (fun r1 _ h => ?_)
  refine j_if_eq G 22 dX9_cell_4 (by decide) (fun c2 => ?_) (fun c2 => ?_)
  · have h := h.1 c2
    refine j_iconst G (-1 : Int32) dX9_cell_22 (by decide) ?_
    exact j_reti G () rfl dX9_cell_23 h rfl
  · have h := h.2 c2
    refine j_aload_n G 0 0 dX9_cell_7 rfl rfl ?_
    have kk3 : kG K (a0 + 1) = (10, 0) := wk_11_1 hW k0
    refine j_get G hW 10 0 4 (.ref (a0 + 1)) k0 (by decide) rfl (by decide) rfl lay_X9 fl_X9_12 rfl rfl dX9_cell_8 ?_
    have kk4 : kG K (a0 + 3) = (3, 0) := wk_10_2 hW (congrArg Prod.fst kk3)
    refine j_get G hW 9 4 5 (.ref (a0 + 3)) (congrArg Prod.fst kk3) (by decide) rfl (by decide) rfl lay_X8 fl_X9_52 rfl rfl dX9_cell_11 ?_
    have kk5 : kG K (a0 + 39) = (20, 32) := wk_3_36 hW (congrArg Prod.fst kk4)
    refine j_get G hW 2 2 39 (.ref (a0 + 39)) (congrArg Prod.fst kk4) (by decide) rfl (by decide) rfl lay_X1 fl_X9_170 rfl rfl dX9_cell_14 ?_
    refine j_iload_n G 1 1 dX9_cell_17 rfl rfl ?_
    obtain ⟨b6, h⟩ := h
    refine j_iald G hW kk5 b6 dX9_cell_18 ?_
    refine j_goto G 23 dX9_cell_19 (by decide) ?_
    exact j_reti G () rfl dX9_cell_23 h rfl
abbrev rm_X9_register : Room := { frames := 1, cells := 0, slots := 0, locals := 20 }
def w_X9_register (a0 : Nat) (x1 : Int32) (I : MI) (Q : Int32 →  Prop) : Prop :=
(w_X9_isRegister x1 (fun r1 =>
((r1 = 0 → Q (-1 : Int32)) ∧
(¬ r1 = 0 → (vp_in x1 8 ∧
Q (I (a0 + 38) (ix x1)))))))
set_option maxHeartbeats 4000000 in
set_option maxRecDepth 100000 in
theorem c_X9_register (K : Kx) (hW : WFK K) (l : Launch) (a0 : Nat) (x1 : Int32) (k0 : (kG K a0).1 = 11) (I : MI) (J : MJ) (B : MR) (Q : Int32 →  Prop) (h : w_X9_register a0 x1 I Q) : Con K l yX9_register (wsT yX9_register cX9_register 2 (some .int)) rm_X9_register [.ref a0, .int x1] (I, J, B) (va_Qi (S := Unit) (fun r _ => Q r) (fun u t => HP K (I, J, B) t.heap) (AA K)) := by
  refine Con.ofJ RX9 rfl (by decide) (Nat.le_of_ble_eq_true rfl) (fun m H0 w G => ?_)
  unfold w_X9_register at h
  show Jg K m 2 H0 w 0 [(0, .ref a0), (1, .int x1)] [] (I, J, B)
  refine j_iload_n G 1 1 dX9_register_0 rfl rfl ?_
  refine j_ci (rn_S G (n := 1) (As := [.int x1]) (rest := []) (c_X9_isRegister K hW l x1 I J B _ h) ml_X9_173 st_X9_isRegister in_X9 co_X9_isRegister (by decide +kernel) rfl rfl (by decide) (by decide) rfl rfl (Nat.le_of_ble_eq_true rfl) dX9_register_1) (fun r1 _ h => ?_)
  refine j_if_eq G 22 dX9_register_4 (by decide) (fun c2 => ?_) (fun c2 => ?_)
  · have h := h.1 c2
    refine j_iconst G (-1 : Int32) dX9_register_22 (by decide) ?_
    exact j_reti G () rfl dX9_register_23 h rfl
  · have h := h.2 c2
    refine j_aload_n G 0 0 dX9_register_7 rfl rfl ?_
    have kk3 : kG K (a0 + 1) = (10, 0) := wk_11_1 hW k0
    refine j_get G hW 10 0 4 (.ref (a0 + 1)) k0 (by decide) rfl (by decide) rfl lay_X9 fl_X9_12 rfl rfl dX9_register_8 ?_
    have kk4 : kG K (a0 + 3) = (3, 0) := wk_10_2 hW (congrArg Prod.fst kk3)
    refine j_get G hW 9 4 5 (.ref (a0 + 3)) (congrArg Prod.fst kk3) (by decide) rfl (by decide) rfl lay_X8 fl_X9_52 rfl rfl dX9_register_11 ?_
    have kk5 : kG K (a0 + 38) = (20, 8) := wk_3_35 hW (congrArg Prod.fst kk4)
    refine j_get G hW 2 1 38 (.ref (a0 + 38)) (congrArg Prod.fst kk4) (by decide) rfl (by decide) rfl lay_X1 fl_X9_176 rfl rfl dX9_register_14 ?_
    refine j_iload_n G 1 1 dX9_register_17 rfl rfl ?_
    obtain ⟨b6, h⟩ := h
    refine j_iald G hW kk5 b6 dX9_register_18 ?_
    refine j_goto G 23 dX9_register_19 (by decide) ?_
    exact j_reti G () rfl dX9_register_23 h rfl
abbrev rm_X9_alone : Room := { frames := 2, cells := 0, slots := 0, locals := 69 }
def w_X9_alone_l35 (a0 : Nat) (x1 : Int32) (x2 : Int32) (a3 : Nat)   (Q : Int32 → MI → Prop) (rec : Int32 → MI → Prop) (x4 : Int32) (I : MI) : Prop :=
((x1 ≤ x4 → (w_X6_figure (a0 + 174) x2 I (fun r10 =>
Q r10 I))) ∧
(¬ x1 ≤ x4 → ((¬ (I (a0 + 174) 4) = 0 → (w_X6_figure (a0 + 174) x2 I (fun r13 =>
Q r13 I))) ∧
((I (a0 + 174) 4) = 0 → (w_X6_step (a0 + 174) a3 I (fun I14 =>
rec (x4 + 1) I14))))))
set_option maxHeartbeats 4000000 in
set_option maxRecDepth 100000 in
theorem m_X9_alone_l35 {K : Kx} {l : Launch} {m : MethodId} {H0 : Heap} {Q : Int32 → MI → Prop} {w : HW} {J : MJ} {B : MR} (G : Gd l rm_X9_alone K m RX9 cX9_alone 5 H0 (some .int) (va_Qi (S := MI) Q (fun u t => HP K (u, J, B) t.heap) (AA K)) w) (hW : WFK K) (a0 : Nat) (x1 : Int32) (x2 : Int32) (a3 : Nat) (x4 : Int32) (ka0 : (kG K a0).1 = 11) (ka3 : (kG K a3).1 = 4) (I : MI)   (h : Lp2 (w_X9_alone_l35 a0 x1 x2 a3 Q) x4 I) : Jg K m 5 H0 w 35 [(0, .ref a0), (1, .int x1), (2, .int x2), (3, .ref a3), (4, .int x4)] [] (I, J, B) := by
  obtain ⟨n, h⟩ := h
  refine lpN2_ind (P := (fun (x4 : Int32) (I : MI) => Jg K m 5 H0 w 35 [(0, .ref a0), (1, .int x1), (2, .int x2), (3, .ref a3), (4, .int x4)] [] (I, J, B))) (fun rec hrec x4 I h => ?_) n x4 I h
  unfold w_X9_alone_l35 at h
  refine j_iload G 4 dX9_alone_35 rfl ?_
  refine j_iload_n G 1 1 dX9_alone_37 rfl rfl ?_
  refine j_icmp_ge G 65 dX9_alone_38 (by decide) (fun c8 => ?_) (fun c8 => ?_)
  · have h := h.1 c8
    refine j_aload_n G 0 0 dX9_alone_65 rfl rfl ?_
    have kk9 : kG K (a0 + 174) = (8, 0) := wk_11_174 hW ka0
    refine j_get G hW 10 5 177 (.ref (a0 + 174)) ka0 (by decide) rfl (by decide) rfl lay_X9 fl_X9_41 rfl rfl dX9_alone_66 ?_
    refine j_iload_n G 2 2 dX9_alone_69 rfl rfl ?_
    refine j_ci (rn_V G hW (ci := 7) (n := 1) (As := [.int x2]) (rest := []) (c_X6_figure K hW l (a0 + 174) x2 (congrArg Prod.fst kk9) I J B _ h) (congrArg Prod.fst kk9) (by decide) rfl ml_X9_189 im_X6_figure se_X6_figure in_X6 co_X6_figure rfl (by decide +kernel) rfl rfl (by decide) (by decide) rfl rfl (Nat.le_of_ble_eq_true rfl) dX9_alone_70) (fun r10 _ h => ?_)
    exact j_reti G I rfl dX9_alone_73 h rfl
  · have h := h.2 c8
    refine j_aload_n G 0 0 dX9_alone_41 rfl rfl ?_
    have kk11 : kG K (a0 + 174) = (8, 0) := wk_11_174 hW ka0
    refine j_get G hW 10 5 177 (.ref (a0 + 174)) ka0 (by decide) rfl (by decide) rfl lay_X9 fl_X9_41 rfl rfl dX9_alone_42 ?_
    refine j_get G hW 7 4 0 (.int (I (a0 + 174) 4)) (congrArg Prod.fst kk11) (by decide) rfl (by decide) rfl lay_X6 fl_X9_182 rfl rfl dX9_alone_45 ?_
    refine j_if_ne G 65 dX9_alone_48 (by decide) (fun c12 => ?_) (fun c12 => ?_)
    · have h := h.1 c12
      refine j_aload_n G 0 0 dX9_alone_65 rfl rfl ?_
      refine j_get G hW 10 5 177 (.ref (a0 + 174)) ka0 (by decide) rfl (by decide) rfl lay_X9 fl_X9_41 rfl rfl dX9_alone_66 ?_
      refine j_iload_n G 2 2 dX9_alone_69 rfl rfl ?_
      refine j_ci (rn_V G hW (ci := 7) (n := 1) (As := [.int x2]) (rest := []) (c_X6_figure K hW l (a0 + 174) x2 (congrArg Prod.fst kk11) I J B _ h) (congrArg Prod.fst kk11) (by decide) rfl ml_X9_189 im_X6_figure se_X6_figure in_X6 co_X6_figure rfl (by decide +kernel) rfl rfl (by decide) (by decide) rfl rfl (Nat.le_of_ble_eq_true rfl) dX9_alone_70) (fun r13 _ h => ?_)
      exact j_reti G I rfl dX9_alone_73 h rfl
    · have h := h.2 c12
      refine j_aload_n G 0 0 dX9_alone_51 rfl rfl ?_
      refine j_get G hW 10 5 177 (.ref (a0 + 174)) ka0 (by decide) rfl (by decide) rfl lay_X9 fl_X9_41 rfl rfl dX9_alone_52 ?_
      refine j_aload_n G 3 3 dX9_alone_55 rfl rfl ?_
      refine j_cv (rn_V G hW (ci := 7) (n := 1) (As := [.ref a3]) (rest := []) (c_X6_step K hW l (a0 + 174) a3 (congrArg Prod.fst kk11) ka3 I J B _ h) (congrArg Prod.fst kk11) (by decide) rfl ml_X9_186 im_X6_step se_X6_step in_X6 co_X6_step rfl (by decide +kernel) rfl rfl (by decide) (by decide) rfl rfl (Nat.le_of_ble_eq_true rfl) dX9_alone_56) (fun I14 h => ?_)
      refine j_iinc G 4 (x4 + 1) [(4, .int (x4 + 1)), (0, .ref a0), (1, .int x1), (2, .int x2), (3, .ref a3)] dX9_alone_59 rfl rfl (by decide) rfl ?_
      refine j_goto G 35 dX9_alone_62 (by decide) ?_
      exact Jg.sub [1, 2, 3, 4, 0] rfl (hrec (x4 + 1) I14 h)
def w_X9_alone (a0 : Nat) (x1 : Int32) (x2 : Int32) (I : MI) (Q : Int32 → MI → Prop) : Prop :=
((x1 < 0 → Q (-1 : Int32) I) ∧
(¬ x1 < 0 → ((x1 ≤ (400 : Int32) → (w_X6_startOf (a0 + 174) (a0 + 4) I (fun I7 =>
Lp2 (w_X9_alone_l35 a0 x1 x2 (a0 + 4) Q) (0 : Int32) I7))) ∧
(¬ x1 ≤ (400 : Int32) → Q (-1 : Int32) I))))
set_option maxHeartbeats 4000000 in
set_option maxRecDepth 100000 in
theorem c_X9_alone (K : Kx) (hW : WFK K) (l : Launch) (a0 : Nat) (x1 : Int32) (x2 : Int32) (k0 : (kG K a0).1 = 11) (I : MI) (J : MJ) (B : MR) (Q : Int32 → MI → Prop) (h : w_X9_alone a0 x1 x2 I Q) : Con K l yX9_alone (wsT yX9_alone cX9_alone 5 (some .int)) rm_X9_alone [.ref a0, .int x1, .int x2] (I, J, B) (va_Qi (S := MI) Q (fun u t => HP K (u, J, B) t.heap) (AA K)) := by
  refine Con.ofJ RX9 rfl (by decide) (Nat.le_of_ble_eq_true rfl) (fun m H0 w G => ?_)
  unfold w_X9_alone at h
  show Jg K m 5 H0 w 0 [(0, .ref a0), (1, .int x1), (2, .int x2)] [] (I, J, B)
  refine j_iload_n G 1 1 dX9_alone_0 rfl rfl ?_
  refine j_if_lt G 11 dX9_alone_1 (by decide) (fun c1 => ?_) (fun c1 => ?_)
  · have h := h.1 c1
    refine j_iconst G (-1 : Int32) dX9_alone_11 (by decide) ?_
    exact j_reti G I rfl dX9_alone_12 h rfl
  · have h := h.2 c1
    refine j_iload_n G 1 1 dX9_alone_4 rfl rfl ?_
    refine j_sipush G (400 : Int32) dX9_alone_5 (by decide) ?_
    refine j_icmp_le G 13 dX9_alone_8 (by decide) (fun c2 => ?_) (fun c2 => ?_)
    · have h := h.1 c2
      refine j_aload_n G 0 0 dX9_alone_13 rfl rfl ?_
      have kk3 : kG K (a0 + 1) = (10, 0) := wk_11_1 hW k0
      refine j_get G hW 10 0 4 (.ref (a0 + 1)) k0 (by decide) rfl (by decide) rfl lay_X9 fl_X9_12 rfl rfl dX9_alone_14 ?_
      have kk4 : kG K (a0 + 3) = (3, 0) := wk_10_2 hW (congrArg Prod.fst kk3)
      refine j_get G hW 9 4 5 (.ref (a0 + 3)) (congrArg Prod.fst kk3) (by decide) rfl (by decide) rfl lay_X8 fl_X9_52 rfl rfl dX9_alone_17 ?_
      have kk5 : kG K (a0 + 4) = (4, 0) := wk_3_1 hW (congrArg Prod.fst kk4)
      refine j_get G hW 2 0 4 (.ref (a0 + 4)) (congrArg Prod.fst kk4) (by decide) rfl (by decide) rfl lay_X1 fl_X9_55 rfl rfl dX9_alone_20 ?_
      refine j_astore_n G 3 [(3, .ref (a0 + 4)), (0, .ref a0), (1, .int x1), (2, .int x2)] dX9_alone_23 rfl (by decide) rfl ?_
      refine j_aload_n G 1 0 dX9_alone_24 rfl rfl ?_
      have kk6 : kG K (a0 + 174) = (8, 0) := wk_11_174 hW k0
      refine j_get G hW 10 5 177 (.ref (a0 + 174)) k0 (by decide) rfl (by decide) rfl lay_X9 fl_X9_41 rfl rfl dX9_alone_25 ?_
      refine j_aload_n G 0 3 dX9_alone_28 rfl rfl ?_
      refine j_cv (rn_V G hW (ci := 7) (n := 1) (As := [.ref (a0 + 4)]) (rest := []) (c_X6_startOf K hW l (a0 + 174) (a0 + 4) (congrArg Prod.fst kk6) (congrArg Prod.fst kk5) I J B _ h) (congrArg Prod.fst kk6) (by decide) rfl ml_X9_179 im_X6_startOf se_X6_startOf in_X6 co_X6_startOf rfl (by decide +kernel) rfl rfl (by decide) (by decide) rfl rfl (Nat.le_of_ble_eq_true rfl) dX9_alone_29) (fun I7 h => ?_)
      refine j_iconst G (0 : Int32) dX9_alone_32 (by decide) ?_
      refine j_istore G [(4, .int (0 : Int32)), (3, .ref (a0 + 4)), (0, .ref a0), (1, .int x1), (2, .int x2)] dX9_alone_33 (by decide) rfl ?_
      refine Jg.sub [2, 3, 4, 1, 0] rfl (m_X9_alone_l35 G hW a0 x1 x2 (a0 + 4) (0 : Int32) k0 (congrArg Prod.fst kk5) I7 h)
    · have h := h.2 c2
      refine j_iconst G (-1 : Int32) dX9_alone_11 (by decide) ?_
      exact j_reti G I rfl dX9_alone_12 h rfl
abbrev rm_X9_ahead : Room := { frames := 6, cells := 0, slots := 0, locals := 135 }
def w_X9_ahead (a0 : Nat) (x1 : Int32) (x2 : Int32) (I : MI) (Q : Int32 → MI → Prop) : Prop :=
((x1 < 0 → Q (-1 : Int32) I) ∧
(¬ x1 < 0 → ((x1 ≤ (60 : Int32) → (w_X1_copyFrom (a0 + 111) (a0 + 3) I (fun I6 =>
(w_X1_goOn (a0 + 111) x1 I6 (fun r7 I8 =>
(w_X9_figureOf a0 (a0 + 111) x2 I8 (fun r9 =>
Q r9 I8))))))) ∧
(¬ x1 ≤ (60 : Int32) → Q (-1 : Int32) I))))
set_option maxHeartbeats 4000000 in
set_option maxRecDepth 100000 in
theorem c_X9_ahead (K : Kx) (hW : WFK K) (l : Launch) (a0 : Nat) (x1 : Int32) (x2 : Int32) (k0 : (kG K a0).1 = 11) (I : MI) (J : MJ) (B : MR) (Q : Int32 → MI → Prop) (h : w_X9_ahead a0 x1 x2 I Q) : Con K l yX9_ahead (wsT yX9_ahead cX9_ahead 3 (some .int)) rm_X9_ahead [.ref a0, .int x1, .int x2] (I, J, B) (va_Qi (S := MI) Q (fun u t => HP K (u, J, B) t.heap) (AA K)) := by
  refine Con.ofJ RX9 rfl (by decide) (Nat.le_of_ble_eq_true rfl) (fun m H0 w G => ?_)
  unfold w_X9_ahead at h
  show Jg K m 3 H0 w 0 [(0, .ref a0), (1, .int x1), (2, .int x2)] [] (I, J, B)
  refine j_iload_n G 1 1 dX9_ahead_0 rfl rfl ?_
  refine j_if_lt G 10 dX9_ahead_1 (by decide) (fun c1 => ?_) (fun c1 => ?_)
  · have h := h.1 c1
    refine j_iconst G (-1 : Int32) dX9_ahead_10 (by decide) ?_
    exact j_reti G I rfl dX9_ahead_11 h rfl
  · have h := h.2 c1
    refine j_iload_n G 1 1 dX9_ahead_4 rfl rfl ?_
    refine j_bipush G (60 : Int32) dX9_ahead_5 (by decide) ?_
    refine j_icmp_le G 12 dX9_ahead_7 (by decide) (fun c2 => ?_) (fun c2 => ?_)
    · have h := h.1 c2
      refine j_aload_n G 0 0 dX9_ahead_12 rfl rfl ?_
      have kk3 : kG K (a0 + 111) = (3, 0) := wk_11_111 hW k0
      refine j_get G hW 10 4 114 (.ref (a0 + 111)) k0 (by decide) rfl (by decide) rfl lay_X9 fl_X9_34 rfl rfl dX9_ahead_13 ?_
      refine j_aload_n G 0 0 dX9_ahead_16 rfl rfl ?_
      have kk4 : kG K (a0 + 1) = (10, 0) := wk_11_1 hW k0
      refine j_get G hW 10 0 4 (.ref (a0 + 1)) k0 (by decide) rfl (by decide) rfl lay_X9 fl_X9_12 rfl rfl dX9_ahead_17 ?_
      have kk5 : kG K (a0 + 3) = (3, 0) := wk_10_2 hW (congrArg Prod.fst kk4)
      refine j_get G hW 9 4 5 (.ref (a0 + 3)) (congrArg Prod.fst kk4) (by decide) rfl (by decide) rfl lay_X8 fl_X9_52 rfl rfl dX9_ahead_20 ?_
      refine j_cv (rn_V G hW (ci := 2) (n := 1) (As := [.ref (a0 + 3)]) (rest := []) (c_X1_copyFrom K hW l (a0 + 111) (a0 + 3) (congrArg Prod.fst kk3) (congrArg Prod.fst kk5) I J B _ h) (congrArg Prod.fst kk3) (by decide) rfl ml_X9_190 im_X1_copyFrom se_X1_copyFrom in_X1 co_X1_copyFrom rfl (by decide +kernel) rfl rfl (by decide) (by decide) rfl rfl (Nat.le_of_ble_eq_true rfl) dX9_ahead_23) (fun I6 h => ?_)
      refine j_aload_n G 0 0 dX9_ahead_26 rfl rfl ?_
      refine j_get G hW 10 4 114 (.ref (a0 + 111)) k0 (by decide) rfl (by decide) rfl lay_X9 fl_X9_34 rfl rfl dX9_ahead_27 ?_
      refine j_iload_n G 1 1 dX9_ahead_30 rfl rfl ?_
      refine j_ci (rn_V G hW (ci := 2) (n := 1) (As := [.int x1]) (rest := []) (c_X1_goOn K hW l (a0 + 111) x1 (congrArg Prod.fst kk3) I6 J B _ h) (congrArg Prod.fst kk3) (by decide) rfl ml_X9_101 im_X1_goOn se_X1_goOn in_X1 co_X1_goOn rfl (by decide +kernel) rfl rfl (by decide) (by decide) rfl rfl (Nat.le_of_ble_eq_true rfl) dX9_ahead_31) (fun r7 I8 h => ?_)
      refine j_pop G rfl dX9_ahead_34 ?_
      refine j_aload_n G 0 0 dX9_ahead_35 rfl rfl ?_
      refine j_aload_n G 0 0 dX9_ahead_36 rfl rfl ?_
      refine j_get G hW 10 4 114 (.ref (a0 + 111)) k0 (by decide) rfl (by decide) rfl lay_X9 fl_X9_34 rfl rfl dX9_ahead_37 ?_
      refine j_iload_n G 2 2 dX9_ahead_40 rfl rfl ?_
      refine j_ci (rn_V G hW (ci := 10) (n := 2) (As := [.ref (a0 + 111), .int x2]) (rest := []) (c_X9_figureOf K hW l a0 (a0 + 111) x2 k0 (congrArg Prod.fst kk3) I8 J B _ h) k0 (by decide) rfl ml_X9_118 im_X9_figureOf se_X9_figureOf in_X9 co_X9_figureOf rfl (by decide +kernel) rfl rfl (by decide) (by decide) rfl rfl (Nat.le_of_ble_eq_true rfl) dX9_ahead_41) (fun r9 _ h => ?_)
      exact j_reti G I8 rfl dX9_ahead_44 h rfl
    · have h := h.2 c2
      refine j_iconst G (-1 : Int32) dX9_ahead_10 (by decide) ?_
      exact j_reti G I rfl dX9_ahead_11 h rfl
abbrev rm_X9_tryFromBeginning : Room := { frames := 3, cells := 0, slots := 0, locals := 70 }
def w_X9_tryFromBeginning (a0 : Nat) (I : MI) (Q : MI → Prop) : Prop :=
(w_X2_copyFrom (a0 + 112) (a0 + 4) I (fun I6 =>
(w_X1_toBeginning (a0 + 111) I6 (fun I7 =>
Q I7))))
set_option maxHeartbeats 4000000 in
set_option maxRecDepth 100000 in
theorem c_X9_tryFromBeginning (K : Kx) (hW : WFK K) (l : Launch) (a0 : Nat) (k0 : (kG K a0).1 = 11) (I : MI) (J : MJ) (B : MR) (Q : MI → Prop) (h : w_X9_tryFromBeginning a0 I Q) : Con K l yX9_tryFromBeginning (wsT yX9_tryFromBeginning cX9_tryFromBeginning 1 none) rm_X9_tryFromBeginning [.ref a0] (I, J, B) (va_Qv (S := MI) Q (fun u t => HP K (u, J, B) t.heap) (AA K)) := by
  refine Con.ofJ RX9 rfl (by decide) (Nat.le_of_ble_eq_true rfl) (fun m H0 w G => ?_)
  unfold w_X9_tryFromBeginning at h
  show Jg K m 1 H0 w 0 [(0, .ref a0)] [] (I, J, B)
  refine j_aload_n G 0 0 dX9_tryFromBeginning_0 rfl rfl ?_
  have kk1 : kG K (a0 + 111) = (3, 0) := wk_11_111 hW k0
  refine j_get G hW 10 4 114 (.ref (a0 + 111)) k0 (by decide) rfl (by decide) rfl lay_X9 fl_X9_34 rfl rfl dX9_tryFromBeginning_1 ?_
  have kk2 : kG K (a0 + 112) = (4, 0) := wk_3_1 hW (congrArg Prod.fst kk1)
  refine j_get G hW 2 0 4 (.ref (a0 + 112)) (congrArg Prod.fst kk1) (by decide) rfl (by decide) rfl lay_X1 fl_X9_55 rfl rfl dX9_tryFromBeginning_4 ?_
  refine j_aload_n G 0 0 dX9_tryFromBeginning_7 rfl rfl ?_
  have kk3 : kG K (a0 + 1) = (10, 0) := wk_11_1 hW k0
  refine j_get G hW 10 0 4 (.ref (a0 + 1)) k0 (by decide) rfl (by decide) rfl lay_X9 fl_X9_12 rfl rfl dX9_tryFromBeginning_8 ?_
  have kk4 : kG K (a0 + 3) = (3, 0) := wk_10_2 hW (congrArg Prod.fst kk3)
  refine j_get G hW 9 4 5 (.ref (a0 + 3)) (congrArg Prod.fst kk3) (by decide) rfl (by decide) rfl lay_X8 fl_X9_52 rfl rfl dX9_tryFromBeginning_11 ?_
  have kk5 : kG K (a0 + 4) = (4, 0) := wk_3_1 hW (congrArg Prod.fst kk4)
  refine j_get G hW 2 0 4 (.ref (a0 + 4)) (congrArg Prod.fst kk4) (by decide) rfl (by decide) rfl lay_X1 fl_X9_55 rfl rfl dX9_tryFromBeginning_14 ?_
  refine j_cv (rn_V G hW (ci := 3) (n := 1) (As := [.ref (a0 + 4)]) (rest := []) (c_X2_copyFrom K hW l (a0 + 112) (a0 + 4) (congrArg Prod.fst kk2) (congrArg Prod.fst kk5) I J B _ h) (congrArg Prod.fst kk2) (by decide) rfl ml_X9_91 im_X2_copyFrom se_X2_copyFrom in_X2 co_X2_copyFrom rfl (by decide +kernel) rfl rfl (by decide) (by decide) rfl rfl (Nat.le_of_ble_eq_true rfl) dX9_tryFromBeginning_17) (fun I6 h => ?_)
  refine j_aload_n G 0 0 dX9_tryFromBeginning_20 rfl rfl ?_
  refine j_get G hW 10 4 114 (.ref (a0 + 111)) k0 (by decide) rfl (by decide) rfl lay_X9 fl_X9_34 rfl rfl dX9_tryFromBeginning_21 ?_
  refine j_cv (rn_V G hW (ci := 2) (n := 0) (As := []) (rest := []) (c_X1_toBeginning K hW l (a0 + 111) (congrArg Prod.fst kk1) I6 J B _ h) (congrArg Prod.fst kk1) (by decide) rfl ml_X9_95 im_X1_toBeginning se_X1_toBeginning in_X1 co_X1_toBeginning rfl (by decide +kernel) rfl rfl (by decide) (by decide) rfl rfl (Nat.le_of_ble_eq_true rfl) dX9_tryFromBeginning_24) (fun I7 h => ?_)
  exact j_retv G I7 dX9_tryFromBeginning_27 h rfl
abbrev rm_X9_time : Room := { frames := 6, cells := 0, slots := 0, locals := 135 }
def w_X9_time (a0 : Nat) (I : MI) (Q : Int32 → MI → Prop) : Prop :=
(w_X9_tryFromBeginning a0 I (fun I1 =>
(w_X1_goOn (a0 + 111) (999 : Int32) I1 (fun r3 I4 =>
(w_X1_timeIfDone (a0 + 111) I4 (fun r5 =>
Q r5 I4))))))
set_option maxHeartbeats 4000000 in
set_option maxRecDepth 100000 in
theorem c_X9_time (K : Kx) (hW : WFK K) (l : Launch) (a0 : Nat) (k0 : (kG K a0).1 = 11) (I : MI) (J : MJ) (B : MR) (Q : Int32 → MI → Prop) (h : w_X9_time a0 I Q) : Con K l yX9_time (wsT yX9_time cX9_time 1 (some .int)) rm_X9_time [.ref a0] (I, J, B) (va_Qi (S := MI) Q (fun u t => HP K (u, J, B) t.heap) (AA K)) := by
  refine Con.ofJ RX9 rfl (by decide) (Nat.le_of_ble_eq_true rfl) (fun m H0 w G => ?_)
  unfold w_X9_time at h
  show Jg K m 1 H0 w 0 [(0, .ref a0)] [] (I, J, B)
  refine j_aload_n G 0 0 dX9_time_0 rfl rfl ?_
  refine j_cv (rn_V G hW (ci := 10) (n := 0) (As := []) (rest := []) (c_X9_tryFromBeginning K hW l a0 k0 I J B _ h) k0 (by decide) rfl ml_X9_193 im_X9_tryFromBeginning se_X9_tryFromBeginning in_X9 co_X9_tryFromBeginning rfl (by decide +kernel) rfl rfl (by decide) (by decide) rfl rfl (Nat.le_of_ble_eq_true rfl) dX9_time_1) (fun I1 h => ?_)
  refine j_aload_n G 0 0 dX9_time_4 rfl rfl ?_
  have kk2 : kG K (a0 + 111) = (3, 0) := wk_11_111 hW k0
  refine j_get G hW 10 4 114 (.ref (a0 + 111)) k0 (by decide) rfl (by decide) rfl lay_X9 fl_X9_34 rfl rfl dX9_time_5 ?_
  refine j_sipush G (999 : Int32) dX9_time_8 (by decide) ?_
  refine j_ci (rn_V G hW (ci := 2) (n := 1) (As := [.int (999 : Int32)]) (rest := []) (c_X1_goOn K hW l (a0 + 111) (999 : Int32) (congrArg Prod.fst kk2) I1 J B _ h) (congrArg Prod.fst kk2) (by decide) rfl ml_X9_101 im_X1_goOn se_X1_goOn in_X1 co_X1_goOn rfl (by decide +kernel) rfl rfl (by decide) (by decide) rfl rfl (Nat.le_of_ble_eq_true rfl) dX9_time_11) (fun r3 I4 h => ?_)
  refine j_pop G rfl dX9_time_14 ?_
  refine j_aload_n G 0 0 dX9_time_15 rfl rfl ?_
  refine j_get G hW 10 4 114 (.ref (a0 + 111)) k0 (by decide) rfl (by decide) rfl lay_X9 fl_X9_34 rfl rfl dX9_time_16 ?_
  refine j_ci (rn_V G hW (ci := 2) (n := 0) (As := []) (rest := []) (c_X1_timeIfDone K hW l (a0 + 111) (congrArg Prod.fst kk2) I4 J B _ h) (congrArg Prod.fst kk2) (by decide) rfl ml_X9_196 im_X1_timeIfDone se_X1_timeIfDone in_X1 co_X1_timeIfDone rfl (by decide +kernel) rfl rfl (by decide) (by decide) rfl rfl (Nat.le_of_ble_eq_true rfl) dX9_time_19) (fun r5 _ h => ?_)
  exact j_reti G I4 rfl dX9_time_22 h rfl
abbrev rm_X9_late : Room := { frames := 6, cells := 0, slots := 0, locals := 135 }
def w_X9_late (a0 : Nat) (x1 : Int32) (I : MI) (Q : Int32 → MI → Prop) : Prop :=
((x1 < (1 : Int32) → Q (-1 : Int32) I) ∧
(¬ x1 < (1 : Int32) → ((x1 ≤ (9 : Int32) → (w_X9_tryFromBeginning a0 I (fun I3 =>
(∀ I5, I5 = ui I3 (a0 + 111) 7 x1 →
(w_X1_goOn (a0 + 111) (999 : Int32) I5 (fun r6 I7 =>
(w_X1_timeIfDone (a0 + 111) I7 (fun r8 =>
Q r8 I7)))))))) ∧
(¬ x1 ≤ (9 : Int32) → Q (-1 : Int32) I))))
set_option maxHeartbeats 4000000 in
set_option maxRecDepth 100000 in
theorem c_X9_late (K : Kx) (hW : WFK K) (l : Launch) (a0 : Nat) (x1 : Int32) (k0 : (kG K a0).1 = 11) (I : MI) (J : MJ) (B : MR) (Q : Int32 → MI → Prop) (h : w_X9_late a0 x1 I Q) : Con K l yX9_late (wsT yX9_late cX9_late 2 (some .int)) rm_X9_late [.ref a0, .int x1] (I, J, B) (va_Qi (S := MI) Q (fun u t => HP K (u, J, B) t.heap) (AA K)) := by
  refine Con.ofJ RX9 rfl (by decide) (Nat.le_of_ble_eq_true rfl) (fun m H0 w G => ?_)
  unfold w_X9_late at h
  show Jg K m 2 H0 w 0 [(0, .ref a0), (1, .int x1)] [] (I, J, B)
  refine j_iload_n G 1 1 dX9_late_0 rfl rfl ?_
  refine j_iconst G (1 : Int32) dX9_late_1 (by decide) ?_
  refine j_icmp_lt G 11 dX9_late_2 (by decide) (fun c1 => ?_) (fun c1 => ?_)
  · have h := h.1 c1
    refine j_iconst G (-1 : Int32) dX9_late_11 (by decide) ?_
    exact j_reti G I rfl dX9_late_12 h rfl
  · have h := h.2 c1
    refine j_iload_n G 1 1 dX9_late_5 rfl rfl ?_
    refine j_bipush G (9 : Int32) dX9_late_6 (by decide) ?_
    refine j_icmp_le G 13 dX9_late_8 (by decide) (fun c2 => ?_) (fun c2 => ?_)
    · have h := h.1 c2
      refine j_aload_n G 0 0 dX9_late_13 rfl rfl ?_
      refine j_cv (rn_V G hW (ci := 10) (n := 0) (As := []) (rest := []) (c_X9_tryFromBeginning K hW l a0 k0 I J B _ h) k0 (by decide) rfl ml_X9_193 im_X9_tryFromBeginning se_X9_tryFromBeginning in_X9 co_X9_tryFromBeginning rfl (by decide +kernel) rfl rfl (by decide) (by decide) rfl rfl (Nat.le_of_ble_eq_true rfl) dX9_late_14) (fun I3 h => ?_)
      refine j_aload_n G 0 0 dX9_late_17 rfl rfl ?_
      have kk4 : kG K (a0 + 111) = (3, 0) := wk_11_111 hW k0
      refine j_get G hW 10 4 114 (.ref (a0 + 111)) k0 (by decide) rfl (by decide) rfl lay_X9 fl_X9_34 rfl rfl dX9_late_18 ?_
      refine j_iload_n G 1 1 dX9_late_21 rfl rfl ?_
      refine j_put G hW 2 7 tyX1 (tyX1 7) tyX1_ok nmX1 (congrArg Prod.fst kk4) (by decide) rfl (by decide) rfl lay_X1 fl_X9_199 rfl rfl (tyX1_ok 7 (by decide)) rfl rfl dX9_late_22 ?_
      refine j_mI (fun I5 eI5 => ?_)
      have h := h I5 eI5
      refine j_aload_n G 0 0 dX9_late_25 rfl rfl ?_
      refine j_get G hW 10 4 114 (.ref (a0 + 111)) k0 (by decide) rfl (by decide) rfl lay_X9 fl_X9_34 rfl rfl dX9_late_26 ?_
      refine j_sipush G (999 : Int32) dX9_late_29 (by decide) ?_
      refine j_ci (rn_V G hW (ci := 2) (n := 1) (As := [.int (999 : Int32)]) (rest := []) (c_X1_goOn K hW l (a0 + 111) (999 : Int32) (congrArg Prod.fst kk4) I5 J B _ h) (congrArg Prod.fst kk4) (by decide) rfl ml_X9_101 im_X1_goOn se_X1_goOn in_X1 co_X1_goOn rfl (by decide +kernel) rfl rfl (by decide) (by decide) rfl rfl (Nat.le_of_ble_eq_true rfl) dX9_late_32) (fun r6 I7 h => ?_)
      refine j_pop G rfl dX9_late_35 ?_
      refine j_aload_n G 0 0 dX9_late_36 rfl rfl ?_
      refine j_get G hW 10 4 114 (.ref (a0 + 111)) k0 (by decide) rfl (by decide) rfl lay_X9 fl_X9_34 rfl rfl dX9_late_37 ?_
      refine j_ci (rn_V G hW (ci := 2) (n := 0) (As := []) (rest := []) (c_X1_timeIfDone K hW l (a0 + 111) (congrArg Prod.fst kk4) I7 J B _ h) (congrArg Prod.fst kk4) (by decide) rfl ml_X9_196 im_X1_timeIfDone se_X1_timeIfDone in_X1 co_X1_timeIfDone rfl (by decide +kernel) rfl rfl (by decide) (by decide) rfl rfl (Nat.le_of_ble_eq_true rfl) dX9_late_40) (fun r8 _ h => ?_)
      exact j_reti G I7 rfl dX9_late_43 h rfl
    · have h := h.2 c2
      refine j_iconst G (-1 : Int32) dX9_late_11 (by decide) ?_
      exact j_reti G I rfl dX9_late_12 h rfl
abbrev rm_X9_timeKeeping : Room := { frames := 6, cells := 0, slots := 0, locals := 135 }
def w_X9_timeKeeping (a0 : Nat) (x1 : Int32) (I : MI) (Q : Int32 → MI → Prop) : Prop :=
(w_X2_copyFrom (a0 + 112) (a0 + 4) I (fun I6 =>
(w_X9_bit x1 (fun r7 =>
(∀ I8, I8 = ui I6 (a0 + 112) 3 ((I6 (a0 + 112) 3) ||| r7) →
(w_X2_split (a0 + 112) I8 (fun I9 =>
(w_X1_toBeginning (a0 + 111) I9 (fun I10 =>
(w_X1_goOn (a0 + 111) (999 : Int32) I10 (fun r11 I12 =>
(w_X1_timeIfDone (a0 + 111) I12 (fun r13 =>
Q r13 I12)))))))))))))
set_option maxHeartbeats 4000000 in
set_option maxRecDepth 100000 in
theorem c_X9_timeKeeping (K : Kx) (hW : WFK K) (l : Launch) (a0 : Nat) (x1 : Int32) (k0 : (kG K a0).1 = 11) (I : MI) (J : MJ) (B : MR) (Q : Int32 → MI → Prop) (h : w_X9_timeKeeping a0 x1 I Q) : Con K l yX9_timeKeeping (wsT yX9_timeKeeping cX9_timeKeeping 2 (some .int)) rm_X9_timeKeeping [.ref a0, .int x1] (I, J, B) (va_Qi (S := MI) Q (fun u t => HP K (u, J, B) t.heap) (AA K)) := by
  refine Con.ofJ RX9 rfl (by decide) (Nat.le_of_ble_eq_true rfl) (fun m H0 w G => ?_)
  unfold w_X9_timeKeeping at h
  show Jg K m 2 H0 w 0 [(0, .ref a0), (1, .int x1)] [] (I, J, B)
  refine j_aload_n G 0 0 dX9_timeKeeping_0 rfl rfl ?_
  have kk1 : kG K (a0 + 111) = (3, 0) := wk_11_111 hW k0
  refine j_get G hW 10 4 114 (.ref (a0 + 111)) k0 (by decide) rfl (by decide) rfl lay_X9 fl_X9_34 rfl rfl dX9_timeKeeping_1 ?_
  have kk2 : kG K (a0 + 112) = (4, 0) := wk_3_1 hW (congrArg Prod.fst kk1)
  refine j_get G hW 2 0 4 (.ref (a0 + 112)) (congrArg Prod.fst kk1) (by decide) rfl (by decide) rfl lay_X1 fl_X9_55 rfl rfl dX9_timeKeeping_4 ?_
  refine j_aload_n G 0 0 dX9_timeKeeping_7 rfl rfl ?_
  have kk3 : kG K (a0 + 1) = (10, 0) := wk_11_1 hW k0
  refine j_get G hW 10 0 4 (.ref (a0 + 1)) k0 (by decide) rfl (by decide) rfl lay_X9 fl_X9_12 rfl rfl dX9_timeKeeping_8 ?_
  have kk4 : kG K (a0 + 3) = (3, 0) := wk_10_2 hW (congrArg Prod.fst kk3)
  refine j_get G hW 9 4 5 (.ref (a0 + 3)) (congrArg Prod.fst kk3) (by decide) rfl (by decide) rfl lay_X8 fl_X9_52 rfl rfl dX9_timeKeeping_11 ?_
  have kk5 : kG K (a0 + 4) = (4, 0) := wk_3_1 hW (congrArg Prod.fst kk4)
  refine j_get G hW 2 0 4 (.ref (a0 + 4)) (congrArg Prod.fst kk4) (by decide) rfl (by decide) rfl lay_X1 fl_X9_55 rfl rfl dX9_timeKeeping_14 ?_
  refine j_cv (rn_V G hW (ci := 3) (n := 1) (As := [.ref (a0 + 4)]) (rest := []) (c_X2_copyFrom K hW l (a0 + 112) (a0 + 4) (congrArg Prod.fst kk2) (congrArg Prod.fst kk5) I J B _ h) (congrArg Prod.fst kk2) (by decide) rfl ml_X9_91 im_X2_copyFrom se_X2_copyFrom in_X2 co_X2_copyFrom rfl (by decide +kernel) rfl rfl (by decide) (by decide) rfl rfl (Nat.le_of_ble_eq_true rfl) dX9_timeKeeping_17) (fun I6 h => ?_)
  refine j_aload_n G 0 0 dX9_timeKeeping_20 rfl rfl ?_
  refine j_get G hW 10 4 114 (.ref (a0 + 111)) k0 (by decide) rfl (by decide) rfl lay_X9 fl_X9_34 rfl rfl dX9_timeKeeping_21 ?_
  refine j_get G hW 2 0 4 (.ref (a0 + 112)) (congrArg Prod.fst kk1) (by decide) rfl (by decide) rfl lay_X1 fl_X9_55 rfl rfl dX9_timeKeeping_24 ?_
  refine j_dup G rfl dX9_timeKeeping_27 ?_
  refine j_get G hW 3 3 0 (.int (I6 (a0 + 112) 3)) (congrArg Prod.fst kk2) (by decide) rfl (by decide) rfl lay_X2 fl_X9_243 rfl rfl dX9_timeKeeping_28 ?_
  refine j_iload_n G 1 1 dX9_timeKeeping_31 rfl rfl ?_
  refine j_ci (rn_S G (n := 1) (As := [.int x1]) (rest := [.int (I6 (a0 + 112) 3), .ref (a0 + 112)]) (c_X9_bit K hW l x1 I6 J B _ h) ml_X9_246 st_X9_bit in_X9 co_X9_bit (by decide +kernel) rfl rfl (by decide) (by decide) rfl rfl (Nat.le_of_ble_eq_true rfl) dX9_timeKeeping_32) (fun r7 _ h => ?_)
  refine j_ior G dX9_timeKeeping_35 ?_
  refine j_put G hW 3 3 tyX2 (tyX2 3) tyX2_ok nmX2 (congrArg Prod.fst kk2) (by decide) rfl (by decide) rfl lay_X2 fl_X9_243 rfl rfl (tyX2_ok 3 (by decide)) rfl rfl dX9_timeKeeping_36 ?_
  refine j_mI (fun I8 eI8 => ?_)
  have h := h I8 eI8
  refine j_aload_n G 0 0 dX9_timeKeeping_39 rfl rfl ?_
  refine j_get G hW 10 4 114 (.ref (a0 + 111)) k0 (by decide) rfl (by decide) rfl lay_X9 fl_X9_34 rfl rfl dX9_timeKeeping_40 ?_
  refine j_get G hW 2 0 4 (.ref (a0 + 112)) (congrArg Prod.fst kk1) (by decide) rfl (by decide) rfl lay_X1 fl_X9_55 rfl rfl dX9_timeKeeping_43 ?_
  refine j_cv (rn_V G hW (ci := 3) (n := 0) (As := []) (rest := []) (c_X2_split K hW l (a0 + 112) (congrArg Prod.fst kk2) I8 J B _ h) (congrArg Prod.fst kk2) (by decide) rfl ml_X9_59 im_X2_split se_X2_split in_X2 co_X2_split rfl (by decide +kernel) rfl rfl (by decide) (by decide) rfl rfl (Nat.le_of_ble_eq_true rfl) dX9_timeKeeping_46) (fun I9 h => ?_)
  refine j_aload_n G 0 0 dX9_timeKeeping_49 rfl rfl ?_
  refine j_get G hW 10 4 114 (.ref (a0 + 111)) k0 (by decide) rfl (by decide) rfl lay_X9 fl_X9_34 rfl rfl dX9_timeKeeping_50 ?_
  refine j_cv (rn_V G hW (ci := 2) (n := 0) (As := []) (rest := []) (c_X1_toBeginning K hW l (a0 + 111) (congrArg Prod.fst kk1) I9 J B _ h) (congrArg Prod.fst kk1) (by decide) rfl ml_X9_95 im_X1_toBeginning se_X1_toBeginning in_X1 co_X1_toBeginning rfl (by decide +kernel) rfl rfl (by decide) (by decide) rfl rfl (Nat.le_of_ble_eq_true rfl) dX9_timeKeeping_53) (fun I10 h => ?_)
  refine j_aload_n G 0 0 dX9_timeKeeping_56 rfl rfl ?_
  refine j_get G hW 10 4 114 (.ref (a0 + 111)) k0 (by decide) rfl (by decide) rfl lay_X9 fl_X9_34 rfl rfl dX9_timeKeeping_57 ?_
  refine j_sipush G (999 : Int32) dX9_timeKeeping_60 (by decide) ?_
  refine j_ci (rn_V G hW (ci := 2) (n := 1) (As := [.int (999 : Int32)]) (rest := []) (c_X1_goOn K hW l (a0 + 111) (999 : Int32) (congrArg Prod.fst kk1) I10 J B _ h) (congrArg Prod.fst kk1) (by decide) rfl ml_X9_101 im_X1_goOn se_X1_goOn in_X1 co_X1_goOn rfl (by decide +kernel) rfl rfl (by decide) (by decide) rfl rfl (Nat.le_of_ble_eq_true rfl) dX9_timeKeeping_63) (fun r11 I12 h => ?_)
  refine j_pop G rfl dX9_timeKeeping_66 ?_
  refine j_aload_n G 0 0 dX9_timeKeeping_67 rfl rfl ?_
  refine j_get G hW 10 4 114 (.ref (a0 + 111)) k0 (by decide) rfl (by decide) rfl lay_X9 fl_X9_34 rfl rfl dX9_timeKeeping_68 ?_
  refine j_ci (rn_V G hW (ci := 2) (n := 0) (As := []) (rest := []) (c_X1_timeIfDone K hW l (a0 + 111) (congrArg Prod.fst kk1) I12 J B _ h) (congrArg Prod.fst kk1) (by decide) rfl ml_X9_196 im_X1_timeIfDone se_X1_timeIfDone in_X1 co_X1_timeIfDone rfl (by decide +kernel) rfl rfl (by decide) (by decide) rfl rfl (Nat.le_of_ble_eq_true rfl) dX9_timeKeeping_71) (fun r13 _ h => ?_)
  exact j_reti G I12 rfl dX9_timeKeeping_74 h rfl
abbrev rm_X9_keeping : Room := { frames := 7, cells := 0, slots := 0, locals := 156 }
def w_X9_keeping (a0 : Nat) (x1 : Int32) (I : MI) (Q : Int32 → MI → Prop) : Prop :=
(w_X9_isRegister x1 (fun r1 =>
((r1 = 0 → Q (-1 : Int32) I) ∧
(¬ r1 = 0 → (w_X9_timeKeeping a0 x1 I (fun r3 I4 =>
Q r3 I4))))))
set_option maxHeartbeats 4000000 in
set_option maxRecDepth 100000 in
theorem c_X9_keeping (K : Kx) (hW : WFK K) (l : Launch) (a0 : Nat) (x1 : Int32) (k0 : (kG K a0).1 = 11) (I : MI) (J : MJ) (B : MR) (Q : Int32 → MI → Prop) (h : w_X9_keeping a0 x1 I Q) : Con K l yX9_keeping (wsT yX9_keeping cX9_keeping 2 (some .int)) rm_X9_keeping [.ref a0, .int x1] (I, J, B) (va_Qi (S := MI) Q (fun u t => HP K (u, J, B) t.heap) (AA K)) := by
  refine Con.ofJ RX9 rfl (by decide) (Nat.le_of_ble_eq_true rfl) (fun m H0 w G => ?_)
  unfold w_X9_keeping at h
  show Jg K m 2 H0 w 0 [(0, .ref a0), (1, .int x1)] [] (I, J, B)
  refine j_iload_n G 1 1 dX9_keeping_0 rfl rfl ?_
  refine j_ci (rn_S G (n := 1) (As := [.int x1]) (rest := []) (c_X9_isRegister K hW l x1 I J B _ h) ml_X9_173 st_X9_isRegister in_X9 co_X9_isRegister (by decide +kernel) rfl rfl (by decide) (by decide) rfl rfl (Nat.le_of_ble_eq_true rfl) dX9_keeping_1) (fun r1 _ h => ?_)
  refine j_if_eq G 15 dX9_keeping_4 (by decide) (fun c2 => ?_) (fun c2 => ?_)
  · have h := h.1 c2
    refine j_iconst G (-1 : Int32) dX9_keeping_15 (by decide) ?_
    exact j_reti G I rfl dX9_keeping_16 h rfl
  · have h := h.2 c2
    refine j_aload_n G 0 0 dX9_keeping_7 rfl rfl ?_
    refine j_iload_n G 1 1 dX9_keeping_8 rfl rfl ?_
    refine j_ci (rn_V G hW (ci := 10) (n := 1) (As := [.int x1]) (rest := []) (c_X9_timeKeeping K hW l a0 x1 k0 I J B _ h) k0 (by decide) rfl ml_X9_202 im_X9_timeKeeping se_X9_timeKeeping in_X9 co_X9_timeKeeping rfl (by decide +kernel) rfl rfl (by decide) (by decide) rfl rfl (Nat.le_of_ble_eq_true rfl) dX9_keeping_9) (fun r3 I4 h => ?_)
    refine j_goto G 16 dX9_keeping_12 (by decide) ?_
    exact j_reti G I4 rfl dX9_keeping_16 h rfl
abbrev rm_X9_best : Room := { frames := 7, cells := 0, slots := 0, locals := 156 }
def w_X9_best_l12 (a0 : Nat)   (Q : Int32 → MI → Prop) (rec : Int32 → Int32 → Int32 → MI → Prop) (x1 : Int32) (x2 : Int32) (x3 : Int32) (I : MI) : Prop :=
(((8 : Int32) ≤ x3 → Q x1 I) ∧
(¬ (8 : Int32) ≤ x3 → (w_X9_isIn (I (a0 + 4) 4) x3 (fun r8 =>
((¬ r8 = 0 → rec x1 x2 (x3 + 1) I) ∧
(r8 = 0 → (w_X9_timeKeeping a0 x3 I (fun r10 I11 =>
(w_X9_noTimeIsMost r10 (fun r12 =>
((x2 ≤ r12 → rec x1 x2 (x3 + 1) I11) ∧
(¬ x2 ≤ r12 → rec x3 r12 (x3 + 1) I11))))))))))))
set_option maxHeartbeats 4000000 in
set_option maxRecDepth 100000 in
theorem m_X9_best_l12 {K : Kx} {l : Launch} {m : MethodId} {H0 : Heap} {Q : Int32 → MI → Prop} {w : HW} {J : MJ} {B : MR} (G : Gd l rm_X9_best K m RX9 cX9_best 5 H0 (some .int) (va_Qi (S := MI) Q (fun u t => HP K (u, J, B) t.heap) (AA K)) w) (hW : WFK K) (a0 : Nat) (x1 : Int32) (x2 : Int32) (x3 : Int32) (ka0 : (kG K a0).1 = 11) (I : MI)   (h : Lp4 (w_X9_best_l12 a0 Q) x1 x2 x3 I) : Jg K m 5 H0 w 12 [(0, .ref a0), (1, .int x1), (2, .int x2), (3, .int x3)] [] (I, J, B) := by
  obtain ⟨n, h⟩ := h
  refine lpN4_ind (P := (fun (x1 : Int32) (x2 : Int32) (x3 : Int32) (I : MI) => Jg K m 5 H0 w 12 [(0, .ref a0), (1, .int x1), (2, .int x2), (3, .int x3)] [] (I, J, B))) (fun rec hrec x1 x2 x3 I h => ?_) n x1 x2 x3 I h
  unfold w_X9_best_l12 at h
  refine j_iload_n G 3 3 dX9_best_12 rfl rfl ?_
  refine j_bipush G (8 : Int32) dX9_best_13 (by decide) ?_
  refine j_icmp_ge G 65 dX9_best_15 (by decide) (fun c4 => ?_) (fun c4 => ?_)
  · have h := h.1 c4
    refine j_iload_n G 1 1 dX9_best_65 rfl rfl ?_
    exact j_reti G I rfl dX9_best_66 h rfl
  · have h := h.2 c4
    refine j_aload_n G 0 0 dX9_best_18 rfl rfl ?_
    have kk5 : kG K (a0 + 1) = (10, 0) := wk_11_1 hW ka0
    refine j_get G hW 10 0 4 (.ref (a0 + 1)) ka0 (by decide) rfl (by decide) rfl lay_X9 fl_X9_12 rfl rfl dX9_best_19 ?_
    have kk6 : kG K (a0 + 3) = (3, 0) := wk_10_2 hW (congrArg Prod.fst kk5)
    refine j_get G hW 9 4 5 (.ref (a0 + 3)) (congrArg Prod.fst kk5) (by decide) rfl (by decide) rfl lay_X8 fl_X9_52 rfl rfl dX9_best_22 ?_
    have kk7 : kG K (a0 + 4) = (4, 0) := wk_3_1 hW (congrArg Prod.fst kk6)
    refine j_get G hW 2 0 4 (.ref (a0 + 4)) (congrArg Prod.fst kk6) (by decide) rfl (by decide) rfl lay_X1 fl_X9_55 rfl rfl dX9_best_25 ?_
    refine j_get G hW 3 4 0 (.int (I (a0 + 4) 4)) (congrArg Prod.fst kk7) (by decide) rfl (by decide) rfl lay_X2 fl_X9_211 rfl rfl dX9_best_28 ?_
    refine j_iload_n G 3 3 dX9_best_31 rfl rfl ?_
    refine j_ci (rn_S G (n := 2) (As := [.int (I (a0 + 4) 4), .int x3]) (rest := []) (c_X9_isIn K hW l (I (a0 + 4) 4) x3 I J B _ h) ml_X9_214 st_X9_isIn in_X9 co_X9_isIn (by decide +kernel) rfl rfl (by decide) (by decide) rfl rfl (Nat.le_of_ble_eq_true rfl) dX9_best_32) (fun r8 _ h => ?_)
    refine j_if_ne G 59 dX9_best_35 (by decide) (fun c9 => ?_) (fun c9 => ?_)
    · have h := h.1 c9
      refine j_iinc G 3 (x3 + 1) [(3, .int (x3 + 1)), (0, .ref a0), (1, .int x1), (2, .int x2)] dX9_best_59 rfl rfl (by decide) rfl ?_
      refine j_goto G 12 dX9_best_62 (by decide) ?_
      exact Jg.sub [1, 2, 3, 0] rfl (hrec x1 x2 (x3 + 1) I h)
    · have h := h.2 c9
      refine j_aload_n G 0 0 dX9_best_38 rfl rfl ?_
      refine j_iload_n G 3 3 dX9_best_39 rfl rfl ?_
      refine j_ci (rn_V G hW (ci := 10) (n := 1) (As := [.int x3]) (rest := []) (c_X9_timeKeeping K hW l a0 x3 ka0 I J B _ h) ka0 (by decide) rfl ml_X9_202 im_X9_timeKeeping se_X9_timeKeeping in_X9 co_X9_timeKeeping rfl (by decide +kernel) rfl rfl (by decide) (by decide) rfl rfl (Nat.le_of_ble_eq_true rfl) dX9_best_40) (fun r10 I11 h => ?_)
      refine j_ci (rn_S G (n := 1) (As := [.int r10]) (rest := []) (c_X9_noTimeIsMost K hW l r10 I11 J B _ h) ml_X9_208 st_X9_noTimeIsMost in_X9 co_X9_noTimeIsMost (by decide +kernel) rfl rfl (by decide) (by decide) rfl rfl (Nat.le_of_ble_eq_true rfl) dX9_best_43) (fun r12 _ h => ?_)
      refine j_istore G [(4, .int r12), (0, .ref a0), (1, .int x1), (2, .int x2), (3, .int x3)] dX9_best_46 (by decide) rfl ?_
      refine j_iload G 0 dX9_best_48 rfl ?_
      refine j_iload_n G 3 2 dX9_best_50 rfl rfl ?_
      refine j_icmp_ge G 59 dX9_best_51 (by decide) (fun c13 => ?_) (fun c13 => ?_)
      · have h := h.1 c13
        refine j_iinc G 4 (x3 + 1) [(3, .int (x3 + 1)), (4, .int r12), (0, .ref a0), (1, .int x1), (2, .int x2)] dX9_best_59 rfl rfl (by decide) rfl ?_
        refine j_goto G 12 dX9_best_62 (by decide) ?_
        exact Jg.sub [2, 3, 4, 0] rfl (hrec x1 x2 (x3 + 1) I11 h)
      · have h := h.2 c13
        refine j_iload G 0 dX9_best_54 rfl ?_
        refine j_istore_n G 2 [(2, .int r12), (4, .int r12), (0, .ref a0), (1, .int x1), (3, .int x3)] dX9_best_56 rfl (by decide) rfl ?_
        refine j_iload_n G 4 3 dX9_best_57 rfl rfl ?_
        refine j_istore_n G 1 [(1, .int x3), (2, .int r12), (4, .int r12), (0, .ref a0), (3, .int x3)] dX9_best_58 rfl (by decide) rfl ?_
        refine j_iinc G 4 (x3 + 1) [(3, .int (x3 + 1)), (1, .int x3), (2, .int r12), (4, .int r12), (0, .ref a0)] dX9_best_59 rfl rfl (by decide) rfl ?_
        refine j_goto G 12 dX9_best_62 (by decide) ?_
        exact Jg.sub [4, 1, 2, 0] rfl (hrec x3 r12 (x3 + 1) I11 h)
def w_X9_best (a0 : Nat) (I : MI) (Q : Int32 → MI → Prop) : Prop :=
(w_X9_time a0 I (fun r1 I2 =>
(w_X9_noTimeIsMost r1 (fun r3 =>
Lp4 (w_X9_best_l12 a0 Q) (-1 : Int32) r3 (0 : Int32) I2))))
set_option maxHeartbeats 4000000 in
set_option maxRecDepth 100000 in
theorem c_X9_best (K : Kx) (hW : WFK K) (l : Launch) (a0 : Nat) (k0 : (kG K a0).1 = 11) (I : MI) (J : MJ) (B : MR) (Q : Int32 → MI → Prop) (h : w_X9_best a0 I Q) : Con K l yX9_best (wsT yX9_best cX9_best 5 (some .int)) rm_X9_best [.ref a0] (I, J, B) (va_Qi (S := MI) Q (fun u t => HP K (u, J, B) t.heap) (AA K)) := by
  refine Con.ofJ RX9 rfl (by decide) (Nat.le_of_ble_eq_true rfl) (fun m H0 w G => ?_)
  unfold w_X9_best at h
  show Jg K m 5 H0 w 0 [(0, .ref a0)] [] (I, J, B)
  refine j_iconst G (-1 : Int32) dX9_best_0 (by decide) ?_
  refine j_istore_n G 1 [(1, .int (-1 : Int32)), (0, .ref a0)] dX9_best_1 rfl (by decide) rfl ?_
  refine j_aload_n G 1 0 dX9_best_2 rfl rfl ?_
  refine j_ci (rn_V G hW (ci := 10) (n := 0) (As := []) (rest := []) (c_X9_time K hW l a0 k0 I J B _ h) k0 (by decide) rfl ml_X9_205 im_X9_time se_X9_time in_X9 co_X9_time rfl (by decide +kernel) rfl rfl (by decide) (by decide) rfl rfl (Nat.le_of_ble_eq_true rfl) dX9_best_3) (fun r1 I2 h => ?_)
  refine j_ci (rn_S G (n := 1) (As := [.int r1]) (rest := []) (c_X9_noTimeIsMost K hW l r1 I2 J B _ h) ml_X9_208 st_X9_noTimeIsMost in_X9 co_X9_noTimeIsMost (by decide +kernel) rfl rfl (by decide) (by decide) rfl rfl (Nat.le_of_ble_eq_true rfl) dX9_best_6) (fun r3 _ h => ?_)
  refine j_istore_n G 2 [(2, .int r3), (1, .int (-1 : Int32)), (0, .ref a0)] dX9_best_9 rfl (by decide) rfl ?_
  refine j_iconst G (0 : Int32) dX9_best_10 (by decide) ?_
  refine j_istore_n G 3 [(3, .int (0 : Int32)), (2, .int r3), (1, .int (-1 : Int32)), (0, .ref a0)] dX9_best_11 rfl (by decide) rfl ?_
  refine Jg.sub [3, 2, 1, 0] rfl (m_X9_best_l12 G hW a0 (-1 : Int32) r3 (0 : Int32) k0 I2 h)
abbrev rm_X9_leastNotStuck : Room := { frames := 6, cells := 0, slots := 0, locals := 135 }
def w_X9_leastNotStuck_l2 (a0 : Nat) (x1 : Int32) (x2 : Int32)   (Q : Int32 → MI → Prop) (rec : Int32 → MI → Prop) (x3 : Int32) (I : MI) : Prop :=
(((6 : Int32) < x3 → Q (-1 : Int32) I) ∧
(¬ (6 : Int32) < x3 → (w_X9_tryFromBeginning a0 I (fun I2 =>
(w_X1_setRooms (a0 + 111) x1 x2 x3 I2 (fun I4 =>
(w_X1_goOn (a0 + 111) (999 : Int32) I4 (fun r5 I6 =>
(((I6 (a0 + 111) 6) = (2 : Int32) → rec (x3 + 1) I6) ∧
(¬ (I6 (a0 + 111) 6) = (2 : Int32) → Q x3 I6))))))))))
set_option maxHeartbeats 4000000 in
set_option maxRecDepth 100000 in
theorem m_X9_leastNotStuck_l2 {K : Kx} {l : Launch} {m : MethodId} {H0 : Heap} {Q : Int32 → MI → Prop} {w : HW} {J : MJ} {B : MR} (G : Gd l rm_X9_leastNotStuck K m RX9 cX9_leastNotStuck 4 H0 (some .int) (va_Qi (S := MI) Q (fun u t => HP K (u, J, B) t.heap) (AA K)) w) (hW : WFK K) (a0 : Nat) (x1 : Int32) (x2 : Int32) (x3 : Int32) (ka0 : (kG K a0).1 = 11) (I : MI)   (h : Lp2 (w_X9_leastNotStuck_l2 a0 x1 x2 Q) x3 I) : Jg K m 4 H0 w 2 [(0, .ref a0), (1, .int x1), (2, .int x2), (3, .int x3)] [] (I, J, B) := by
  obtain ⟨n, h⟩ := h
  refine lpN2_ind (P := (fun (x3 : Int32) (I : MI) => Jg K m 4 H0 w 2 [(0, .ref a0), (1, .int x1), (2, .int x2), (3, .int x3)] [] (I, J, B))) (fun rec hrec x3 I h => ?_) n x3 I h
  unfold w_X9_leastNotStuck_l2 at h
  refine j_iload_n G 3 3 dX9_leastNotStuck_2 rfl rfl ?_
  refine j_bipush G (6 : Int32) dX9_leastNotStuck_3 (by decide) ?_
  refine j_icmp_gt G 52 dX9_leastNotStuck_5 (by decide) (fun c1 => ?_) (fun c1 => ?_)
  · have h := h.1 c1
    refine j_iconst G (-1 : Int32) dX9_leastNotStuck_52 (by decide) ?_
    exact j_reti G I rfl dX9_leastNotStuck_53 h rfl
  · have h := h.2 c1
    refine j_aload_n G 0 0 dX9_leastNotStuck_8 rfl rfl ?_
    refine j_cv (rn_V G hW (ci := 10) (n := 0) (As := []) (rest := []) (c_X9_tryFromBeginning K hW l a0 ka0 I J B _ h) ka0 (by decide) rfl ml_X9_193 im_X9_tryFromBeginning se_X9_tryFromBeginning in_X9 co_X9_tryFromBeginning rfl (by decide +kernel) rfl rfl (by decide) (by decide) rfl rfl (Nat.le_of_ble_eq_true rfl) dX9_leastNotStuck_9) (fun I2 h => ?_)
    refine j_aload_n G 0 0 dX9_leastNotStuck_12 rfl rfl ?_
    have kk3 : kG K (a0 + 111) = (3, 0) := wk_11_111 hW ka0
    refine j_get G hW 10 4 114 (.ref (a0 + 111)) ka0 (by decide) rfl (by decide) rfl lay_X9 fl_X9_34 rfl rfl dX9_leastNotStuck_13 ?_
    refine j_iload_n G 1 1 dX9_leastNotStuck_16 rfl rfl ?_
    refine j_iload_n G 2 2 dX9_leastNotStuck_17 rfl rfl ?_
    refine j_iload_n G 3 3 dX9_leastNotStuck_18 rfl rfl ?_
    refine j_cv (rn_V G hW (ci := 2) (n := 3) (As := [.int x1, .int x2, .int x3]) (rest := []) (c_X1_setRooms K hW l (a0 + 111) x1 x2 x3 (congrArg Prod.fst kk3) I2 J B _ h) (congrArg Prod.fst kk3) (by decide) rfl ml_X9_249 im_X1_setRooms se_X1_setRooms in_X1 co_X1_setRooms rfl (by decide +kernel) rfl rfl (by decide) (by decide) rfl rfl (Nat.le_of_ble_eq_true rfl) dX9_leastNotStuck_19) (fun I4 h => ?_)
    refine j_aload_n G 0 0 dX9_leastNotStuck_22 rfl rfl ?_
    refine j_get G hW 10 4 114 (.ref (a0 + 111)) ka0 (by decide) rfl (by decide) rfl lay_X9 fl_X9_34 rfl rfl dX9_leastNotStuck_23 ?_
    refine j_sipush G (999 : Int32) dX9_leastNotStuck_26 (by decide) ?_
    refine j_ci (rn_V G hW (ci := 2) (n := 1) (As := [.int (999 : Int32)]) (rest := []) (c_X1_goOn K hW l (a0 + 111) (999 : Int32) (congrArg Prod.fst kk3) I4 J B _ h) (congrArg Prod.fst kk3) (by decide) rfl ml_X9_101 im_X1_goOn se_X1_goOn in_X1 co_X1_goOn rfl (by decide +kernel) rfl rfl (by decide) (by decide) rfl rfl (Nat.le_of_ble_eq_true rfl) dX9_leastNotStuck_29) (fun r5 I6 h => ?_)
    refine j_pop G rfl dX9_leastNotStuck_32 ?_
    refine j_aload_n G 0 0 dX9_leastNotStuck_33 rfl rfl ?_
    refine j_get G hW 10 4 114 (.ref (a0 + 111)) ka0 (by decide) rfl (by decide) rfl lay_X9 fl_X9_34 rfl rfl dX9_leastNotStuck_34 ?_
    refine j_get G hW 2 6 0 (.int (I6 (a0 + 111) 6)) (congrArg Prod.fst kk3) (by decide) rfl (by decide) rfl lay_X1 fl_X9_227 rfl rfl dX9_leastNotStuck_37 ?_
    refine j_iconst G (2 : Int32) dX9_leastNotStuck_40 (by decide) ?_
    refine j_icmp_eq G 46 dX9_leastNotStuck_41 (by decide) (fun c7 => ?_) (fun c7 => ?_)
    · have h := h.1 c7
      refine j_iinc G 3 (x3 + 1) [(3, .int (x3 + 1)), (0, .ref a0), (1, .int x1), (2, .int x2)] dX9_leastNotStuck_46 rfl rfl (by decide) rfl ?_
      refine j_goto G 2 dX9_leastNotStuck_49 (by decide) ?_
      exact Jg.sub [1, 2, 3, 0] rfl (hrec (x3 + 1) I6 h)
    · have h := h.2 c7
      refine j_iload_n G 3 3 dX9_leastNotStuck_44 rfl rfl ?_
      exact j_reti G I6 rfl dX9_leastNotStuck_45 h rfl
def w_X9_leastNotStuck (a0 : Nat) (x1 : Int32) (x2 : Int32) (I : MI) (Q : Int32 → MI → Prop) : Prop :=
Lp2 (w_X9_leastNotStuck_l2 a0 x1 x2 Q) (1 : Int32) I
set_option maxHeartbeats 4000000 in
set_option maxRecDepth 100000 in
theorem c_X9_leastNotStuck (K : Kx) (hW : WFK K) (l : Launch) (a0 : Nat) (x1 : Int32) (x2 : Int32) (k0 : (kG K a0).1 = 11) (I : MI) (J : MJ) (B : MR) (Q : Int32 → MI → Prop) (h : w_X9_leastNotStuck a0 x1 x2 I Q) : Con K l yX9_leastNotStuck (wsT yX9_leastNotStuck cX9_leastNotStuck 4 (some .int)) rm_X9_leastNotStuck [.ref a0, .int x1, .int x2] (I, J, B) (va_Qi (S := MI) Q (fun u t => HP K (u, J, B) t.heap) (AA K)) := by
  refine Con.ofJ RX9 rfl (by decide) (Nat.le_of_ble_eq_true rfl) (fun m H0 w G => ?_)
  unfold w_X9_leastNotStuck at h
  show Jg K m 4 H0 w 0 [(0, .ref a0), (1, .int x1), (2, .int x2)] [] (I, J, B)
  refine j_iconst G (1 : Int32) dX9_leastNotStuck_0 (by decide) ?_
  refine j_istore_n G 3 [(3, .int (1 : Int32)), (0, .ref a0), (1, .int x1), (2, .int x2)] dX9_leastNotStuck_1 rfl (by decide) rfl ?_
  refine Jg.sub [1, 2, 3, 0] rfl (m_X9_leastNotStuck_l2 G hW a0 x1 x2 (1 : Int32) k0 I h)
abbrev rm_X9_timeWithRoom : Room := { frames := 6, cells := 0, slots := 0, locals := 135 }
def w_X9_timeWithRoom (a0 : Nat) (x1 : Int32) (x2 : Int32) (I : MI) (Q : Int32 → MI → Prop) : Prop :=
(w_X9_tryFromBeginning a0 I (fun I1 =>
(w_X1_setRooms (a0 + 111) x1 x1 x2 I1 (fun I3 =>
(w_X1_goOn (a0 + 111) (999 : Int32) I3 (fun r4 I5 =>
(w_X1_timeIfDone (a0 + 111) I5 (fun r6 =>
Q r6 I5))))))))
set_option maxHeartbeats 4000000 in
set_option maxRecDepth 100000 in
theorem c_X9_timeWithRoom (K : Kx) (hW : WFK K) (l : Launch) (a0 : Nat) (x1 : Int32) (x2 : Int32) (k0 : (kG K a0).1 = 11) (I : MI) (J : MJ) (B : MR) (Q : Int32 → MI → Prop) (h : w_X9_timeWithRoom a0 x1 x2 I Q) : Con K l yX9_timeWithRoom (wsT yX9_timeWithRoom cX9_timeWithRoom 3 (some .int)) rm_X9_timeWithRoom [.ref a0, .int x1, .int x2] (I, J, B) (va_Qi (S := MI) Q (fun u t => HP K (u, J, B) t.heap) (AA K)) := by
  refine Con.ofJ RX9 rfl (by decide) (Nat.le_of_ble_eq_true rfl) (fun m H0 w G => ?_)
  unfold w_X9_timeWithRoom at h
  show Jg K m 3 H0 w 0 [(0, .ref a0), (1, .int x1), (2, .int x2)] [] (I, J, B)
  refine j_aload_n G 0 0 dX9_timeWithRoom_0 rfl rfl ?_
  refine j_cv (rn_V G hW (ci := 10) (n := 0) (As := []) (rest := []) (c_X9_tryFromBeginning K hW l a0 k0 I J B _ h) k0 (by decide) rfl ml_X9_193 im_X9_tryFromBeginning se_X9_tryFromBeginning in_X9 co_X9_tryFromBeginning rfl (by decide +kernel) rfl rfl (by decide) (by decide) rfl rfl (Nat.le_of_ble_eq_true rfl) dX9_timeWithRoom_1) (fun I1 h => ?_)
  refine j_aload_n G 0 0 dX9_timeWithRoom_4 rfl rfl ?_
  have kk2 : kG K (a0 + 111) = (3, 0) := wk_11_111 hW k0
  refine j_get G hW 10 4 114 (.ref (a0 + 111)) k0 (by decide) rfl (by decide) rfl lay_X9 fl_X9_34 rfl rfl dX9_timeWithRoom_5 ?_
  refine j_iload_n G 1 1 dX9_timeWithRoom_8 rfl rfl ?_
  refine j_iload_n G 1 1 dX9_timeWithRoom_9 rfl rfl ?_
  refine j_iload_n G 2 2 dX9_timeWithRoom_10 rfl rfl ?_
  refine j_cv (rn_V G hW (ci := 2) (n := 3) (As := [.int x1, .int x1, .int x2]) (rest := []) (c_X1_setRooms K hW l (a0 + 111) x1 x1 x2 (congrArg Prod.fst kk2) I1 J B _ h) (congrArg Prod.fst kk2) (by decide) rfl ml_X9_249 im_X1_setRooms se_X1_setRooms in_X1 co_X1_setRooms rfl (by decide +kernel) rfl rfl (by decide) (by decide) rfl rfl (Nat.le_of_ble_eq_true rfl) dX9_timeWithRoom_11) (fun I3 h => ?_)
  refine j_aload_n G 0 0 dX9_timeWithRoom_14 rfl rfl ?_
  refine j_get G hW 10 4 114 (.ref (a0 + 111)) k0 (by decide) rfl (by decide) rfl lay_X9 fl_X9_34 rfl rfl dX9_timeWithRoom_15 ?_
  refine j_sipush G (999 : Int32) dX9_timeWithRoom_18 (by decide) ?_
  refine j_ci (rn_V G hW (ci := 2) (n := 1) (As := [.int (999 : Int32)]) (rest := []) (c_X1_goOn K hW l (a0 + 111) (999 : Int32) (congrArg Prod.fst kk2) I3 J B _ h) (congrArg Prod.fst kk2) (by decide) rfl ml_X9_101 im_X1_goOn se_X1_goOn in_X1 co_X1_goOn rfl (by decide +kernel) rfl rfl (by decide) (by decide) rfl rfl (Nat.le_of_ble_eq_true rfl) dX9_timeWithRoom_21) (fun r4 I5 h => ?_)
  refine j_pop G rfl dX9_timeWithRoom_24 ?_
  refine j_aload_n G 0 0 dX9_timeWithRoom_25 rfl rfl ?_
  refine j_get G hW 10 4 114 (.ref (a0 + 111)) k0 (by decide) rfl (by decide) rfl lay_X9 fl_X9_34 rfl rfl dX9_timeWithRoom_26 ?_
  refine j_ci (rn_V G hW (ci := 2) (n := 0) (As := []) (rest := []) (c_X1_timeIfDone K hW l (a0 + 111) (congrArg Prod.fst kk2) I5 J B _ h) (congrArg Prod.fst kk2) (by decide) rfl ml_X9_196 im_X1_timeIfDone se_X1_timeIfDone in_X1 co_X1_timeIfDone rfl (by decide +kernel) rfl rfl (by decide) (by decide) rfl rfl (Nat.le_of_ble_eq_true rfl) dX9_timeWithRoom_29) (fun r6 _ h => ?_)
  exact j_reti G I5 rfl dX9_timeWithRoom_32 h rfl
abbrev rm_X9_least : Room := { frames := 7, cells := 0, slots := 0, locals := 158 }
def w_X9_least_l38 (a0 : Nat) (x1 : Int32) (x3 : Int32)   (Q : Int32 → MI → Prop) (rec : Int32 → MI → Prop) (x4 : Int32) (I : MI) : Prop :=
(((6 : Int32) ≤ x4 → Q (6 : Int32) I) ∧
(¬ (6 : Int32) ≤ x4 → (w_X9_timeWithRoom a0 x1 x4 I (fun r8 I9 =>
((¬ r8 = x3 → rec (x4 + 1) I9) ∧
(r8 = x3 → Q x4 I9))))))
set_option maxHeartbeats 4000000 in
set_option maxRecDepth 100000 in
theorem m_X9_least_l38 {K : Kx} {l : Launch} {m : MethodId} {H0 : Heap} {Q : Int32 → MI → Prop} {w : HW} {J : MJ} {B : MR} (G : Gd l rm_X9_least K m RX9 cX9_least 5 H0 (some .int) (va_Qi (S := MI) Q (fun u t => HP K (u, J, B) t.heap) (AA K)) w) (hW : WFK K) (a0 : Nat) (x1 : Int32) (x3 : Int32) (x4 : Int32) (ka0 : (kG K a0).1 = 11) (I : MI)   (h : Lp2 (w_X9_least_l38 a0 x1 x3 Q) x4 I) : Jg K m 5 H0 w 38 [(0, .ref a0), (1, .int x1), (3, .int x3), (4, .int x4)] [] (I, J, B) := by
  obtain ⟨n, h⟩ := h
  refine lpN2_ind (P := (fun (x4 : Int32) (I : MI) => Jg K m 5 H0 w 38 [(0, .ref a0), (1, .int x1), (3, .int x3), (4, .int x4)] [] (I, J, B))) (fun rec hrec x4 I h => ?_) n x4 I h
  unfold w_X9_least_l38 at h
  refine j_iload G 3 dX9_least_38 rfl ?_
  refine j_bipush G (6 : Int32) dX9_least_40 (by decide) ?_
  refine j_icmp_ge G 65 dX9_least_42 (by decide) (fun c7 => ?_) (fun c7 => ?_)
  · have h := h.1 c7
    refine j_bipush G (6 : Int32) dX9_least_65 (by decide) ?_
    exact j_reti G I rfl dX9_least_67 h rfl
  · have h := h.2 c7
    refine j_aload_n G 0 0 dX9_least_45 rfl rfl ?_
    refine j_iload_n G 1 1 dX9_least_46 rfl rfl ?_
    refine j_iload G 3 dX9_least_47 rfl ?_
    refine j_ci (rn_V G hW (ci := 10) (n := 2) (As := [.int x1, .int x4]) (rest := []) (c_X9_timeWithRoom K hW l a0 x1 x4 ka0 I J B _ h) ka0 (by decide) rfl ml_X9_221 im_X9_timeWithRoom se_X9_timeWithRoom in_X9 co_X9_timeWithRoom rfl (by decide +kernel) rfl rfl (by decide) (by decide) rfl rfl (Nat.le_of_ble_eq_true rfl) dX9_least_49) (fun r8 I9 h => ?_)
    refine j_iload_n G 2 3 dX9_least_52 rfl rfl ?_
    refine j_icmp_ne G 59 dX9_least_53 (by decide) (fun c10 => ?_) (fun c10 => ?_)
    · have h := h.1 c10
      refine j_iinc G 3 (x4 + 1) [(4, .int (x4 + 1)), (0, .ref a0), (1, .int x1), (3, .int x3)] dX9_least_59 rfl rfl (by decide) rfl ?_
      refine j_goto G 38 dX9_least_62 (by decide) ?_
      exact Jg.sub [1, 2, 3, 0] rfl (hrec (x4 + 1) I9 h)
    · have h := h.2 c10
      refine j_iload G 3 dX9_least_56 rfl ?_
      exact j_reti G I9 rfl dX9_least_58 h rfl
def w_X9_least (a0 : Nat) (x1 : Int32) (x2 : Int32) (I : MI) (Q : Int32 → MI → Prop) : Prop :=
(w_X9_isQueue x1 (fun r1 =>
((¬ r1 = 0 → ((¬ x2 = 0 → (w_X9_timeWithRoom a0 x1 (6 : Int32) I (fun r4 I5 =>
((¬ r4 = (-1 : Int32) → Lp2 (w_X9_least_l38 a0 x1 r4 Q) (1 : Int32) I5) ∧
(r4 = (-1 : Int32) → Q (-1 : Int32) I5))))) ∧
(x2 = 0 → (w_X9_leastNotStuck a0 x1 x1 I (fun r11 I12 =>
Q r11 I12))))) ∧
(r1 = 0 → Q (-1 : Int32) I))))
set_option maxHeartbeats 4000000 in
set_option maxRecDepth 100000 in
theorem c_X9_least (K : Kx) (hW : WFK K) (l : Launch) (a0 : Nat) (x1 : Int32) (x2 : Int32) (k0 : (kG K a0).1 = 11) (I : MI) (J : MJ) (B : MR) (Q : Int32 → MI → Prop) (h : w_X9_least a0 x1 x2 I Q) : Con K l yX9_least (wsT yX9_least cX9_least 5 (some .int)) rm_X9_least [.ref a0, .int x1, .int x2] (I, J, B) (va_Qi (S := MI) Q (fun u t => HP K (u, J, B) t.heap) (AA K)) := by
  refine Con.ofJ RX9 rfl (by decide) (Nat.le_of_ble_eq_true rfl) (fun m H0 w G => ?_)
  unfold w_X9_least at h
  show Jg K m 5 H0 w 0 [(0, .ref a0), (1, .int x1), (2, .int x2)] [] (I, J, B)
  refine j_iload_n G 1 1 dX9_least_0 rfl rfl ?_
  refine j_ci (rn_S G (n := 1) (As := [.int x1]) (rest := []) (c_X9_isQueue K hW l x1 I J B _ h) ml_X9_105 st_X9_isQueue in_X9 co_X9_isQueue (by decide +kernel) rfl rfl (by decide) (by decide) rfl rfl (Nat.le_of_ble_eq_true rfl) dX9_least_1) (fun r1 _ h => ?_)
  refine j_if_ne G 9 dX9_least_4 (by decide) (fun c2 => ?_) (fun c2 => ?_)
  · have h := h.1 c2
    refine j_iload_n G 2 2 dX9_least_9 rfl rfl ?_
    refine j_if_ne G 20 dX9_least_10 (by decide) (fun c3 => ?_) (fun c3 => ?_)
    · have h := h.1 c3
      refine j_aload_n G 0 0 dX9_least_20 rfl rfl ?_
      refine j_iload_n G 1 1 dX9_least_21 rfl rfl ?_
      refine j_bipush G (6 : Int32) dX9_least_22 (by decide) ?_
      refine j_ci (rn_V G hW (ci := 10) (n := 2) (As := [.int x1, .int (6 : Int32)]) (rest := []) (c_X9_timeWithRoom K hW l a0 x1 (6 : Int32) k0 I J B _ h) k0 (by decide) rfl ml_X9_221 im_X9_timeWithRoom se_X9_timeWithRoom in_X9 co_X9_timeWithRoom rfl (by decide +kernel) rfl rfl (by decide) (by decide) rfl rfl (Nat.le_of_ble_eq_true rfl) dX9_least_24) (fun r4 I5 h => ?_)
      refine j_istore_n G 3 [(3, .int r4), (0, .ref a0), (1, .int x1), (2, .int x2)] dX9_least_27 rfl (by decide) rfl ?_
      refine j_iload_n G 0 3 dX9_least_28 rfl rfl ?_
      refine j_iconst G (-1 : Int32) dX9_least_29 (by decide) ?_
      refine j_icmp_ne G 35 dX9_least_30 (by decide) (fun c6 => ?_) (fun c6 => ?_)
      · have h := h.1 c6
        refine j_iconst G (1 : Int32) dX9_least_35 (by decide) ?_
        refine j_istore G [(4, .int (1 : Int32)), (3, .int r4), (0, .ref a0), (1, .int x1), (2, .int x2)] dX9_least_36 (by decide) rfl ?_
        refine Jg.sub [2, 3, 1, 0] rfl (m_X9_least_l38 G hW a0 x1 r4 (1 : Int32) k0 I5 h)
      · have h := h.2 c6
        refine j_iconst G (-1 : Int32) dX9_least_33 (by decide) ?_
        exact j_reti G I5 rfl dX9_least_34 h rfl
    · have h := h.2 c3
      refine j_aload_n G 0 0 dX9_least_13 rfl rfl ?_
      refine j_iload_n G 1 1 dX9_least_14 rfl rfl ?_
      refine j_iload_n G 1 1 dX9_least_15 rfl rfl ?_
      refine j_ci (rn_V G hW (ci := 10) (n := 2) (As := [.int x1, .int x1]) (rest := []) (c_X9_leastNotStuck K hW l a0 x1 x1 k0 I J B _ h) k0 (by decide) rfl ml_X9_218 im_X9_leastNotStuck se_X9_leastNotStuck in_X9 co_X9_leastNotStuck rfl (by decide +kernel) rfl rfl (by decide) (by decide) rfl rfl (Nat.le_of_ble_eq_true rfl) dX9_least_16) (fun r11 I12 h => ?_)
      exact j_reti G I12 rfl dX9_least_19 h rfl
  · have h := h.2 c2
    refine j_iconst G (-1 : Int32) dX9_least_7 (by decide) ?_
    exact j_reti G I rfl dX9_least_8 h rfl
abbrev rm_X9_safe : Room := { frames := 7, cells := 0, slots := 0, locals := 158 }
def w_X9_safe (a0 : Nat) (I : MI) (Q : Int32 → MI → Prop) : Prop :=
(w_X9_leastNotStuck a0 (0 : Int32) (5 : Int32) I (fun r1 I2 =>
Q r1 I2))
set_option maxHeartbeats 4000000 in
set_option maxRecDepth 100000 in
theorem c_X9_safe (K : Kx) (hW : WFK K) (l : Launch) (a0 : Nat) (k0 : (kG K a0).1 = 11) (I : MI) (J : MJ) (B : MR) (Q : Int32 → MI → Prop) (h : w_X9_safe a0 I Q) : Con K l yX9_safe (wsT yX9_safe cX9_safe 1 (some .int)) rm_X9_safe [.ref a0] (I, J, B) (va_Qi (S := MI) Q (fun u t => HP K (u, J, B) t.heap) (AA K)) := by
  refine Con.ofJ RX9 rfl (by decide) (Nat.le_of_ble_eq_true rfl) (fun m H0 w G => ?_)
  unfold w_X9_safe at h
  show Jg K m 1 H0 w 0 [(0, .ref a0)] [] (I, J, B)
  refine j_aload_n G 0 0 dX9_safe_0 rfl rfl ?_
  refine j_iconst G (0 : Int32) dX9_safe_1 (by decide) ?_
  refine j_iconst G (5 : Int32) dX9_safe_2 (by decide) ?_
  refine j_ci (rn_V G hW (ci := 10) (n := 2) (As := [.int (0 : Int32), .int (5 : Int32)]) (rest := []) (c_X9_leastNotStuck K hW l a0 (0 : Int32) (5 : Int32) k0 I J B _ h) k0 (by decide) rfl ml_X9_218 im_X9_leastNotStuck se_X9_leastNotStuck in_X9 co_X9_leastNotStuck rfl (by decide +kernel) rfl rfl (by decide) (by decide) rfl rfl (Nat.le_of_ble_eq_true rfl) dX9_safe_3) (fun r1 I2 h => ?_)
  exact j_reti G I2 rfl dX9_safe_6 h rfl
abbrev rm_X9_rounds : Room := { frames := 4, cells := 0, slots := 0, locals := 92 }
def w_X9_rounds (a0 : Nat) (x1 : Int32) (I : MI) (Q : Int32 → MI → Prop) : Prop :=
(w_X2_roundBits (a0 + 4) x1 I (fun r4 I5 =>
Q r4 I5))
set_option maxHeartbeats 4000000 in
set_option maxRecDepth 100000 in
theorem c_X9_rounds (K : Kx) (hW : WFK K) (l : Launch) (a0 : Nat) (x1 : Int32) (k0 : (kG K a0).1 = 11) (I : MI) (J : MJ) (B : MR) (Q : Int32 → MI → Prop) (h : w_X9_rounds a0 x1 I Q) : Con K l yX9_rounds (wsT yX9_rounds cX9_rounds 2 (some .int)) rm_X9_rounds [.ref a0, .int x1] (I, J, B) (va_Qi (S := MI) Q (fun u t => HP K (u, J, B) t.heap) (AA K)) := by
  refine Con.ofJ RX9 rfl (by decide) (Nat.le_of_ble_eq_true rfl) (fun m H0 w G => ?_)
  unfold w_X9_rounds at h
  show Jg K m 2 H0 w 0 [(0, .ref a0), (1, .int x1)] [] (I, J, B)
  refine j_aload_n G 0 0 dX9_rounds_0 rfl rfl ?_
  have kk1 : kG K (a0 + 1) = (10, 0) := wk_11_1 hW k0
  refine j_get G hW 10 0 4 (.ref (a0 + 1)) k0 (by decide) rfl (by decide) rfl lay_X9 fl_X9_12 rfl rfl dX9_rounds_1 ?_
  have kk2 : kG K (a0 + 3) = (3, 0) := wk_10_2 hW (congrArg Prod.fst kk1)
  refine j_get G hW 9 4 5 (.ref (a0 + 3)) (congrArg Prod.fst kk1) (by decide) rfl (by decide) rfl lay_X8 fl_X9_52 rfl rfl dX9_rounds_4 ?_
  have kk3 : kG K (a0 + 4) = (4, 0) := wk_3_1 hW (congrArg Prod.fst kk2)
  refine j_get G hW 2 0 4 (.ref (a0 + 4)) (congrArg Prod.fst kk2) (by decide) rfl (by decide) rfl lay_X1 fl_X9_55 rfl rfl dX9_rounds_7 ?_
  refine j_iload_n G 1 1 dX9_rounds_10 rfl rfl ?_
  refine j_ci (rn_V G hW (ci := 3) (n := 1) (As := [.int x1]) (rest := []) (c_X2_roundBits K hW l (a0 + 4) x1 (congrArg Prod.fst kk3) I J B _ h) (congrArg Prod.fst kk3) (by decide) rfl ml_X9_224 im_X2_roundBits se_X2_roundBits in_X2 co_X2_roundBits rfl (by decide +kernel) rfl rfl (by decide) (by decide) rfl rfl (Nat.le_of_ble_eq_true rfl) dX9_rounds_11) (fun r4 I5 h => ?_)
  exact j_reti G I5 rfl dX9_rounds_14 h rfl
abbrev rm_X9_changed : Room := { frames := 5, cells := 0, slots := 0, locals := 113 }
def w_X9_changed_l25 (a0 : Nat) (x1 : Int32) (x2 : Int32)   (Q : Int32 → MI → Prop) (rec : Int32 → MI → Prop) (x3 : Int32) (I : MI) : Prop :=
(((999 : Int32) ≤ x3 → Q (-1 : Int32) I) ∧
(¬ (999 : Int32) ≤ x3 → ((¬ (I (a0 + 111) 6) = 0 → Q (-1 : Int32) I) ∧
((I (a0 + 111) 6) = 0 → (w_X1_oneCycle (a0 + 111) I (fun I11 =>
(vp_in x1 32 ∧
(((I11 (a0 + 147) (ix x1)) = x2 → rec (x3 + 1) I11) ∧
(¬ (I11 (a0 + 147) (ix x1)) = x2 → Q (I11 (a0 + 111) 5) I11)))))))))
set_option maxHeartbeats 4000000 in
set_option maxRecDepth 100000 in
theorem m_X9_changed_l25 {K : Kx} {l : Launch} {m : MethodId} {H0 : Heap} {Q : Int32 → MI → Prop} {w : HW} {J : MJ} {B : MR} (G : Gd l rm_X9_changed K m RX9 cX9_changed 4 H0 (some .int) (va_Qi (S := MI) Q (fun u t => HP K (u, J, B) t.heap) (AA K)) w) (hW : WFK K) (a0 : Nat) (x1 : Int32) (x2 : Int32) (x3 : Int32) (ka0 : (kG K a0).1 = 11) (I : MI)   (h : Lp2 (w_X9_changed_l25 a0 x1 x2 Q) x3 I) : Jg K m 4 H0 w 25 [(0, .ref a0), (1, .int x1), (2, .int x2), (3, .int x3)] [] (I, J, B) := by
  obtain ⟨n, h⟩ := h
  refine lpN2_ind (P := (fun (x3 : Int32) (I : MI) => Jg K m 4 H0 w 25 [(0, .ref a0), (1, .int x1), (2, .int x2), (3, .int x3)] [] (I, J, B))) (fun rec hrec x3 I h => ?_) n x3 I h
  unfold w_X9_changed_l25 at h
  refine j_iload_n G 3 3 dX9_changed_25 rfl rfl ?_
  refine j_sipush G (999 : Int32) dX9_changed_26 (by decide) ?_
  refine j_icmp_ge G 76 dX9_changed_29 (by decide) (fun c8 => ?_) (fun c8 => ?_)
  · have h := h.1 c8
    refine j_iconst G (-1 : Int32) dX9_changed_76 (by decide) ?_
    exact j_reti G I rfl dX9_changed_77 h rfl
  · have h := h.2 c8
    refine j_aload_n G 0 0 dX9_changed_32 rfl rfl ?_
    have kk9 : kG K (a0 + 111) = (3, 0) := wk_11_111 hW ka0
    refine j_get G hW 10 4 114 (.ref (a0 + 111)) ka0 (by decide) rfl (by decide) rfl lay_X9 fl_X9_34 rfl rfl dX9_changed_33 ?_
    refine j_get G hW 2 6 0 (.int (I (a0 + 111) 6)) (congrArg Prod.fst kk9) (by decide) rfl (by decide) rfl lay_X1 fl_X9_227 rfl rfl dX9_changed_36 ?_
    refine j_if_ne G 76 dX9_changed_39 (by decide) (fun c10 => ?_) (fun c10 => ?_)
    · have h := h.1 c10
      refine j_iconst G (-1 : Int32) dX9_changed_76 (by decide) ?_
      exact j_reti G I rfl dX9_changed_77 h rfl
    · have h := h.2 c10
      refine j_aload_n G 0 0 dX9_changed_42 rfl rfl ?_
      refine j_get G hW 10 4 114 (.ref (a0 + 111)) ka0 (by decide) rfl (by decide) rfl lay_X9 fl_X9_34 rfl rfl dX9_changed_43 ?_
      refine j_cv (rn_V G hW (ci := 2) (n := 0) (As := []) (rest := []) (c_X1_oneCycle K hW l (a0 + 111) (congrArg Prod.fst kk9) I J B _ h) (congrArg Prod.fst kk9) (by decide) rfl ml_X9_230 im_X1_oneCycle se_X1_oneCycle in_X1 co_X1_oneCycle rfl (by decide +kernel) rfl rfl (by decide) (by decide) rfl rfl (Nat.le_of_ble_eq_true rfl) dX9_changed_46) (fun I11 h => ?_)
      refine j_aload_n G 0 0 dX9_changed_49 rfl rfl ?_
      refine j_get G hW 10 4 114 (.ref (a0 + 111)) ka0 (by decide) rfl (by decide) rfl lay_X9 fl_X9_34 rfl rfl dX9_changed_50 ?_
      have kk12 : kG K (a0 + 147) = (20, 32) := wk_3_36 hW (congrArg Prod.fst kk9)
      refine j_get G hW 2 2 39 (.ref (a0 + 147)) (congrArg Prod.fst kk9) (by decide) rfl (by decide) rfl lay_X1 fl_X9_170 rfl rfl dX9_changed_53 ?_
      refine j_iload_n G 1 1 dX9_changed_56 rfl rfl ?_
      obtain ⟨b13, h⟩ := h
      refine j_iald G hW kk12 b13 dX9_changed_57 ?_
      refine j_iload_n G 2 2 dX9_changed_58 rfl rfl ?_
      refine j_icmp_eq G 70 dX9_changed_59 (by decide) (fun c14 => ?_) (fun c14 => ?_)
      · have h := h.1 c14
        refine j_iinc G 3 (x3 + 1) [(3, .int (x3 + 1)), (0, .ref a0), (1, .int x1), (2, .int x2)] dX9_changed_70 rfl rfl (by decide) rfl ?_
        refine j_goto G 25 dX9_changed_73 (by decide) ?_
        exact Jg.sub [1, 2, 3, 0] rfl (hrec (x3 + 1) I11 h)
      · have h := h.2 c14
        refine j_aload_n G 0 0 dX9_changed_62 rfl rfl ?_
        refine j_get G hW 10 4 114 (.ref (a0 + 111)) ka0 (by decide) rfl (by decide) rfl lay_X9 fl_X9_34 rfl rfl dX9_changed_63 ?_
        refine j_get G hW 2 5 0 (.int (I11 (a0 + 111) 5)) (congrArg Prod.fst kk9) (by decide) rfl (by decide) rfl lay_X1 fl_X9_233 rfl rfl dX9_changed_66 ?_
        exact j_reti G I11 rfl dX9_changed_69 h rfl
def w_X9_changed (a0 : Nat) (x1 : Int32) (I : MI) (Q : Int32 → MI → Prop) : Prop :=
(w_X9_isCell x1 (fun r1 =>
((¬ r1 = 0 → (w_X9_tryFromBeginning a0 I (fun I3 =>
(vp_in x1 32 ∧
(∀ x2_7, x2_7 = I3 (a0 + 147) (ix x1) →
Lp2 (w_X9_changed_l25 a0 x1 x2_7 Q) (0 : Int32) I3))))) ∧
(r1 = 0 → Q (-1 : Int32) I))))
set_option maxHeartbeats 4000000 in
set_option maxRecDepth 100000 in
theorem c_X9_changed (K : Kx) (hW : WFK K) (l : Launch) (a0 : Nat) (x1 : Int32) (k0 : (kG K a0).1 = 11) (I : MI) (J : MJ) (B : MR) (Q : Int32 → MI → Prop) (h : w_X9_changed a0 x1 I Q) : Con K l yX9_changed (wsT yX9_changed cX9_changed 4 (some .int)) rm_X9_changed [.ref a0, .int x1] (I, J, B) (va_Qi (S := MI) Q (fun u t => HP K (u, J, B) t.heap) (AA K)) := by
  refine Con.ofJ RX9 rfl (by decide) (Nat.le_of_ble_eq_true rfl) (fun m H0 w G => ?_)
  unfold w_X9_changed at h
  show Jg K m 4 H0 w 0 [(0, .ref a0), (1, .int x1)] [] (I, J, B)
  refine j_iload_n G 1 1 dX9_changed_0 rfl rfl ?_
  refine j_ci (rn_S G (n := 1) (As := [.int x1]) (rest := []) (c_X9_isCell K hW l x1 I J B _ h) ml_X9_167 st_X9_isCell in_X9 co_X9_isCell (by decide +kernel) rfl rfl (by decide) (by decide) rfl rfl (Nat.le_of_ble_eq_true rfl) dX9_changed_1) (fun r1 _ h => ?_)
  refine j_if_ne G 9 dX9_changed_4 (by decide) (fun c2 => ?_) (fun c2 => ?_)
  · have h := h.1 c2
    refine j_aload_n G 0 0 dX9_changed_9 rfl rfl ?_
    refine j_cv (rn_V G hW (ci := 10) (n := 0) (As := []) (rest := []) (c_X9_tryFromBeginning K hW l a0 k0 I J B _ h) k0 (by decide) rfl ml_X9_193 im_X9_tryFromBeginning se_X9_tryFromBeginning in_X9 co_X9_tryFromBeginning rfl (by decide +kernel) rfl rfl (by decide) (by decide) rfl rfl (Nat.le_of_ble_eq_true rfl) dX9_changed_10) (fun I3 h => ?_)
    refine j_aload_n G 0 0 dX9_changed_13 rfl rfl ?_
    have kk4 : kG K (a0 + 111) = (3, 0) := wk_11_111 hW k0
    refine j_get G hW 10 4 114 (.ref (a0 + 111)) k0 (by decide) rfl (by decide) rfl lay_X9 fl_X9_34 rfl rfl dX9_changed_14 ?_
    have kk5 : kG K (a0 + 147) = (20, 32) := wk_3_36 hW (congrArg Prod.fst kk4)
    refine j_get G hW 2 2 39 (.ref (a0 + 147)) (congrArg Prod.fst kk4) (by decide) rfl (by decide) rfl lay_X1 fl_X9_170 rfl rfl dX9_changed_17 ?_
    refine j_iload_n G 1 1 dX9_changed_20 rfl rfl ?_
    obtain ⟨b6, h⟩ := h
    refine j_iald G hW kk5 b6 dX9_changed_21 ?_
    refine j_nm (fun x2_7 ex2_7 => ?_)
    have h := h x2_7 ex2_7
    refine j_istore_n G 2 [(2, .int x2_7), (0, .ref a0), (1, .int x1)] dX9_changed_22 rfl (by decide) rfl ?_
    refine j_iconst G (0 : Int32) dX9_changed_23 (by decide) ?_
    refine j_istore_n G 3 [(3, .int (0 : Int32)), (2, .int x2_7), (0, .ref a0), (1, .int x1)] dX9_changed_24 rfl (by decide) rfl ?_
    refine Jg.sub [2, 3, 1, 0] rfl (m_X9_changed_l25 G hW a0 x1 x2_7 (0 : Int32) k0 I3 h)
  · have h := h.2 c2
    refine j_iconst G (-1 : Int32) dX9_changed_7 (by decide) ?_
    exact j_reti G I rfl dX9_changed_8 h rfl
abbrev rm_X9_slipped : Room := { frames := 5, cells := 0, slots := 0, locals := 113 }
def w_X9_slipped_l6 (a0 : Nat) (x1 : Int32)   (Q : Int32 → MI → Prop) (rec : Int32 → MI → Prop) (x2 : Int32) (I : MI) : Prop :=
(((999 : Int32) ≤ x2 → (w_X1_slip (a0 + 111) I (fun r4 =>
((¬ r4 = x1 → Q (-1 : Int32) I) ∧
(r4 = x1 → Q (I (a0 + 111) 5) I))))) ∧
(¬ (999 : Int32) ≤ x2 → ((¬ (I (a0 + 111) 6) = 0 → (w_X1_slip (a0 + 111) I (fun r8 =>
((¬ r8 = x1 → Q (-1 : Int32) I) ∧
(r8 = x1 → Q (I (a0 + 111) 5) I))))) ∧
((I (a0 + 111) 6) = 0 → (w_X1_slip (a0 + 111) I (fun r10 =>
((¬ r10 = x1 → (w_X1_oneCycle (a0 + 111) I (fun I12 =>
rec (x2 + 1) I12))) ∧
(r10 = x1 → Q (I (a0 + 111) 5) I))))))))
set_option maxHeartbeats 4000000 in
set_option maxRecDepth 100000 in
theorem m_X9_slipped_l6 {K : Kx} {l : Launch} {m : MethodId} {H0 : Heap} {Q : Int32 → MI → Prop} {w : HW} {J : MJ} {B : MR} (G : Gd l rm_X9_slipped K m RX9 cX9_slipped 3 H0 (some .int) (va_Qi (S := MI) Q (fun u t => HP K (u, J, B) t.heap) (AA K)) w) (hW : WFK K) (a0 : Nat) (x1 : Int32) (x2 : Int32) (ka0 : (kG K a0).1 = 11) (I : MI)   (h : Lp2 (w_X9_slipped_l6 a0 x1 Q) x2 I) : Jg K m 3 H0 w 6 [(0, .ref a0), (1, .int x1), (2, .int x2)] [] (I, J, B) := by
  obtain ⟨n, h⟩ := h
  refine lpN2_ind (P := (fun (x2 : Int32) (I : MI) => Jg K m 3 H0 w 6 [(0, .ref a0), (1, .int x1), (2, .int x2)] [] (I, J, B))) (fun rec hrec x2 I h => ?_) n x2 I h
  unfold w_X9_slipped_l6 at h
  refine j_iload_n G 2 2 dX9_slipped_6 rfl rfl ?_
  refine j_sipush G (999 : Int32) dX9_slipped_7 (by decide) ?_
  refine j_icmp_ge G 55 dX9_slipped_10 (by decide) (fun c2 => ?_) (fun c2 => ?_)
  · have h := h.1 c2
    refine j_aload_n G 0 0 dX9_slipped_55 rfl rfl ?_
    have kk3 : kG K (a0 + 111) = (3, 0) := wk_11_111 hW ka0
    refine j_get G hW 10 4 114 (.ref (a0 + 111)) ka0 (by decide) rfl (by decide) rfl lay_X9 fl_X9_34 rfl rfl dX9_slipped_56 ?_
    refine j_ci (rn_V G hW (ci := 2) (n := 0) (As := []) (rest := []) (c_X1_slip K hW l (a0 + 111) (congrArg Prod.fst kk3) I J B _ h) (congrArg Prod.fst kk3) (by decide) rfl ml_X9_236 im_X1_slip se_X1_slip in_X1 co_X1_slip rfl (by decide +kernel) rfl rfl (by decide) (by decide) rfl rfl (Nat.le_of_ble_eq_true rfl) dX9_slipped_59) (fun r4 _ h => ?_)
    refine j_iload_n G 1 1 dX9_slipped_62 rfl rfl ?_
    refine j_icmp_ne G 76 dX9_slipped_63 (by decide) (fun c5 => ?_) (fun c5 => ?_)
    · have h := h.1 c5
      refine j_iconst G (-1 : Int32) dX9_slipped_76 (by decide) ?_
      exact j_reti G I rfl dX9_slipped_77 h rfl
    · have h := h.2 c5
      refine j_aload_n G 0 0 dX9_slipped_66 rfl rfl ?_
      refine j_get G hW 10 4 114 (.ref (a0 + 111)) ka0 (by decide) rfl (by decide) rfl lay_X9 fl_X9_34 rfl rfl dX9_slipped_67 ?_
      refine j_get G hW 2 5 0 (.int (I (a0 + 111) 5)) (congrArg Prod.fst kk3) (by decide) rfl (by decide) rfl lay_X1 fl_X9_233 rfl rfl dX9_slipped_70 ?_
      refine j_goto G 77 dX9_slipped_73 (by decide) ?_
      exact j_reti G I rfl dX9_slipped_77 h rfl
  · have h := h.2 c2
    refine j_aload_n G 0 0 dX9_slipped_13 rfl rfl ?_
    have kk6 : kG K (a0 + 111) = (3, 0) := wk_11_111 hW ka0
    refine j_get G hW 10 4 114 (.ref (a0 + 111)) ka0 (by decide) rfl (by decide) rfl lay_X9 fl_X9_34 rfl rfl dX9_slipped_14 ?_
    refine j_get G hW 2 6 0 (.int (I (a0 + 111) 6)) (congrArg Prod.fst kk6) (by decide) rfl (by decide) rfl lay_X1 fl_X9_227 rfl rfl dX9_slipped_17 ?_
    refine j_if_ne G 55 dX9_slipped_20 (by decide) (fun c7 => ?_) (fun c7 => ?_)
    · have h := h.1 c7
      refine j_aload_n G 0 0 dX9_slipped_55 rfl rfl ?_
      refine j_get G hW 10 4 114 (.ref (a0 + 111)) ka0 (by decide) rfl (by decide) rfl lay_X9 fl_X9_34 rfl rfl dX9_slipped_56 ?_
      refine j_ci (rn_V G hW (ci := 2) (n := 0) (As := []) (rest := []) (c_X1_slip K hW l (a0 + 111) (congrArg Prod.fst kk6) I J B _ h) (congrArg Prod.fst kk6) (by decide) rfl ml_X9_236 im_X1_slip se_X1_slip in_X1 co_X1_slip rfl (by decide +kernel) rfl rfl (by decide) (by decide) rfl rfl (Nat.le_of_ble_eq_true rfl) dX9_slipped_59) (fun r8 _ h => ?_)
      refine j_iload_n G 1 1 dX9_slipped_62 rfl rfl ?_
      refine j_icmp_ne G 76 dX9_slipped_63 (by decide) (fun c9 => ?_) (fun c9 => ?_)
      · have h := h.1 c9
        refine j_iconst G (-1 : Int32) dX9_slipped_76 (by decide) ?_
        exact j_reti G I rfl dX9_slipped_77 h rfl
      · have h := h.2 c9
        refine j_aload_n G 0 0 dX9_slipped_66 rfl rfl ?_
        refine j_get G hW 10 4 114 (.ref (a0 + 111)) ka0 (by decide) rfl (by decide) rfl lay_X9 fl_X9_34 rfl rfl dX9_slipped_67 ?_
        refine j_get G hW 2 5 0 (.int (I (a0 + 111) 5)) (congrArg Prod.fst kk6) (by decide) rfl (by decide) rfl lay_X1 fl_X9_233 rfl rfl dX9_slipped_70 ?_
        refine j_goto G 77 dX9_slipped_73 (by decide) ?_
        exact j_reti G I rfl dX9_slipped_77 h rfl
    · have h := h.2 c7
      refine j_aload_n G 0 0 dX9_slipped_23 rfl rfl ?_
      refine j_get G hW 10 4 114 (.ref (a0 + 111)) ka0 (by decide) rfl (by decide) rfl lay_X9 fl_X9_34 rfl rfl dX9_slipped_24 ?_
      refine j_ci (rn_V G hW (ci := 2) (n := 0) (As := []) (rest := []) (c_X1_slip K hW l (a0 + 111) (congrArg Prod.fst kk6) I J B _ h) (congrArg Prod.fst kk6) (by decide) rfl ml_X9_236 im_X1_slip se_X1_slip in_X1 co_X1_slip rfl (by decide +kernel) rfl rfl (by decide) (by decide) rfl rfl (Nat.le_of_ble_eq_true rfl) dX9_slipped_27) (fun r10 _ h => ?_)
      refine j_iload_n G 1 1 dX9_slipped_30 rfl rfl ?_
      refine j_icmp_ne G 42 dX9_slipped_31 (by decide) (fun c11 => ?_) (fun c11 => ?_)
      · have h := h.1 c11
        refine j_aload_n G 0 0 dX9_slipped_42 rfl rfl ?_
        refine j_get G hW 10 4 114 (.ref (a0 + 111)) ka0 (by decide) rfl (by decide) rfl lay_X9 fl_X9_34 rfl rfl dX9_slipped_43 ?_
        refine j_cv (rn_V G hW (ci := 2) (n := 0) (As := []) (rest := []) (c_X1_oneCycle K hW l (a0 + 111) (congrArg Prod.fst kk6) I J B _ h) (congrArg Prod.fst kk6) (by decide) rfl ml_X9_230 im_X1_oneCycle se_X1_oneCycle in_X1 co_X1_oneCycle rfl (by decide +kernel) rfl rfl (by decide) (by decide) rfl rfl (Nat.le_of_ble_eq_true rfl) dX9_slipped_46) (fun I12 h => ?_)
        refine j_iinc G 2 (x2 + 1) [(2, .int (x2 + 1)), (0, .ref a0), (1, .int x1)] dX9_slipped_49 rfl rfl (by decide) rfl ?_
        refine j_goto G 6 dX9_slipped_52 (by decide) ?_
        exact Jg.sub [1, 2, 0] rfl (hrec (x2 + 1) I12 h)
      · have h := h.2 c11
        refine j_aload_n G 0 0 dX9_slipped_34 rfl rfl ?_
        refine j_get G hW 10 4 114 (.ref (a0 + 111)) ka0 (by decide) rfl (by decide) rfl lay_X9 fl_X9_34 rfl rfl dX9_slipped_35 ?_
        refine j_get G hW 2 5 0 (.int (I (a0 + 111) 5)) (congrArg Prod.fst kk6) (by decide) rfl (by decide) rfl lay_X1 fl_X9_233 rfl rfl dX9_slipped_38 ?_
        exact j_reti G I rfl dX9_slipped_41 h rfl
def w_X9_slipped (a0 : Nat) (x1 : Int32) (I : MI) (Q : Int32 → MI → Prop) : Prop :=
(w_X9_tryFromBeginning a0 I (fun I1 =>
Lp2 (w_X9_slipped_l6 a0 x1 Q) (0 : Int32) I1))
set_option maxHeartbeats 4000000 in
set_option maxRecDepth 100000 in
theorem c_X9_slipped (K : Kx) (hW : WFK K) (l : Launch) (a0 : Nat) (x1 : Int32) (k0 : (kG K a0).1 = 11) (I : MI) (J : MJ) (B : MR) (Q : Int32 → MI → Prop) (h : w_X9_slipped a0 x1 I Q) : Con K l yX9_slipped (wsT yX9_slipped cX9_slipped 3 (some .int)) rm_X9_slipped [.ref a0, .int x1] (I, J, B) (va_Qi (S := MI) Q (fun u t => HP K (u, J, B) t.heap) (AA K)) := by
  refine Con.ofJ RX9 rfl (by decide) (Nat.le_of_ble_eq_true rfl) (fun m H0 w G => ?_)
  unfold w_X9_slipped at h
  show Jg K m 3 H0 w 0 [(0, .ref a0), (1, .int x1)] [] (I, J, B)
  refine j_aload_n G 0 0 dX9_slipped_0 rfl rfl ?_
  refine j_cv (rn_V G hW (ci := 10) (n := 0) (As := []) (rest := []) (c_X9_tryFromBeginning K hW l a0 k0 I J B _ h) k0 (by decide) rfl ml_X9_193 im_X9_tryFromBeginning se_X9_tryFromBeginning in_X9 co_X9_tryFromBeginning rfl (by decide +kernel) rfl rfl (by decide) (by decide) rfl rfl (Nat.le_of_ble_eq_true rfl) dX9_slipped_1) (fun I1 h => ?_)
  refine j_iconst G (0 : Int32) dX9_slipped_4 (by decide) ?_
  refine j_istore_n G 2 [(2, .int (0 : Int32)), (0, .ref a0), (1, .int x1)] dX9_slipped_5 rfl (by decide) rfl ?_
  refine Jg.sub [1, 2, 0] rfl (m_X9_slipped_l6 G hW a0 x1 (0 : Int32) k0 I1 h)
abbrev rm_X9_image : Room := { frames := 4, cells := 0, slots := 0, locals := 113 }
def w_X9_image (a0 : Nat) (x1 : Int32) (I : MI) (Q : Int32 → MI → Prop) : Prop :=
((x1 < 0 → Q (0 : Int32) I) ∧
(¬ x1 < 0 → ((x1 < (3 : Int32) → (vp_in x1 3 ∧
(w_X8_copyFrom (a0 + 179 + 65 * ix x1) (a0 + 1) I (fun I7 =>
(vp_in x1 3 ∧
(∀ I10, I10 = ui I7 (a0 + 67) (ix x1) (vp_nar .boolean (1 : Int32)) →
Q (1 : Int32) I10)))))) ∧
(¬ x1 < (3 : Int32) → Q (0 : Int32) I))))
set_option maxHeartbeats 4000000 in
set_option maxRecDepth 100000 in
theorem c_X9_image (K : Kx) (hW : WFK K) (l : Launch) (a0 : Nat) (x1 : Int32) (k0 : (kG K a0).1 = 11) (I : MI) (J : MJ) (B : MR) (Q : Int32 → MI → Prop) (h : w_X9_image a0 x1 I Q) : Con K l yX9_image (wsT yX9_image cX9_image 2 (some .boolean)) rm_X9_image [.ref a0, .int x1] (I, J, B) (va_Qi (S := MI) Q (fun u t => HP K (u, J, B) t.heap) (AA K)) := by
  refine Con.ofJ RX9 rfl (by decide) (Nat.le_of_ble_eq_true rfl) (fun m H0 w G => ?_)
  unfold w_X9_image at h
  show Jg K m 2 H0 w 0 [(0, .ref a0), (1, .int x1)] [] (I, J, B)
  refine j_iload_n G 1 1 dX9_image_0 rfl rfl ?_
  refine j_if_lt G 9 dX9_image_1 (by decide) (fun c1 => ?_) (fun c1 => ?_)
  · have h := h.1 c1
    refine j_iconst G (0 : Int32) dX9_image_9 (by decide) ?_
    exact j_reti G I (by decide) dX9_image_10 h rfl
  · have h := h.2 c1
    refine j_iload_n G 1 1 dX9_image_4 rfl rfl ?_
    refine j_iconst G (3 : Int32) dX9_image_5 (by decide) ?_
    refine j_icmp_lt G 11 dX9_image_6 (by decide) (fun c2 => ?_) (fun c2 => ?_)
    · have h := h.1 c2
      refine j_aload_n G 0 0 dX9_image_11 rfl rfl ?_
      have kk3 : kG K (a0 + 66) = (27, 3) := wk_11_66 hW k0
      refine j_get G hW 10 1 69 (.ref (a0 + 66)) k0 (by decide) rfl (by decide) rfl lay_X9 fl_X9_16 rfl rfl dX9_image_12 ?_
      refine j_iload_n G 1 1 dX9_image_15 rfl rfl ?_
      obtain ⟨b4, h⟩ := h
      have kk5 : (kG K (a0 + 179 + 65 * ix x1)).1 = 10 := wk_a27 (i := x1) hW kk3 b4 (ad2 rfl)
      refine j_aald27 G hW (i := x1) (b := a0 + 179 + 65 * ix x1) kk3 b4 (ad2 rfl) dX9_image_16 ?_
      refine j_aload_n G 0 0 dX9_image_17 rfl rfl ?_
      have kk6 : kG K (a0 + 1) = (10, 0) := wk_11_1 hW k0
      refine j_get G hW 10 0 4 (.ref (a0 + 1)) k0 (by decide) rfl (by decide) rfl lay_X9 fl_X9_12 rfl rfl dX9_image_18 ?_
      refine j_cv (rn_V G hW (ci := 9) (n := 1) (As := [.ref (a0 + 1)]) (rest := []) (c_X8_copyFrom K hW l (a0 + 179 + 65 * ix x1) (a0 + 1) kk5 (congrArg Prod.fst kk6) I J B _ h) kk5 (by decide) rfl ml_X9_239 im_X8_copyFrom se_X8_copyFrom in_X8 co_X8_copyFrom rfl (by decide +kernel) rfl rfl (by decide) (by decide) rfl rfl (Nat.le_of_ble_eq_true rfl) dX9_image_21) (fun I7 h => ?_)
      refine j_aload_n G 0 0 dX9_image_24 rfl rfl ?_
      have kk8 : kG K (a0 + 67) = (23, 3) := wk_11_67 hW k0
      refine j_get G hW 10 2 70 (.ref (a0 + 67)) k0 (by decide) rfl (by decide) rfl lay_X9 fl_X9_20 rfl rfl dX9_image_25 ?_
      refine j_iload_n G 1 1 dX9_image_28 rfl rfl ?_
      refine j_iconst G (1 : Int32) dX9_image_29 (by decide) ?_
      obtain ⟨b9, h⟩ := h
      refine j_zast G hW kk8 b9 dX9_image_30 ?_
      refine j_mI (fun I10 eI10 => ?_)
      have h := h I10 eI10
      refine j_iconst G (1 : Int32) dX9_image_31 (by decide) ?_
      exact j_reti G I10 (by decide) dX9_image_32 h rfl
    · have h := h.2 c2
      refine j_iconst G (0 : Int32) dX9_image_9 (by decide) ?_
      exact j_reti G I (by decide) dX9_image_10 h rfl
abbrev rm_X9_again : Room := { frames := 4, cells := 0, slots := 0, locals := 113 }
def w_X9_again (a0 : Nat) (x1 : Int32) (I : MI) (Q : Int32 → MI → Prop) : Prop :=
((x1 < 0 → Q (0 : Int32) I) ∧
(¬ x1 < 0 → (((3 : Int32) ≤ x1 → Q (0 : Int32) I) ∧
(¬ (3 : Int32) ≤ x1 → (vp_in x1 3 ∧
((¬ (I (a0 + 67) (ix x1)) = 0 → (vp_in x1 3 ∧
(w_X8_copyFrom (a0 + 1) (a0 + 179 + 65 * ix x1) I (fun I10 =>
Q (1 : Int32) I10)))) ∧
((I (a0 + 67) (ix x1)) = 0 → Q (0 : Int32) I)))))))
set_option maxHeartbeats 4000000 in
set_option maxRecDepth 100000 in
theorem c_X9_again (K : Kx) (hW : WFK K) (l : Launch) (a0 : Nat) (x1 : Int32) (k0 : (kG K a0).1 = 11) (I : MI) (J : MJ) (B : MR) (Q : Int32 → MI → Prop) (h : w_X9_again a0 x1 I Q) : Con K l yX9_again (wsT yX9_again cX9_again 2 (some .boolean)) rm_X9_again [.ref a0, .int x1] (I, J, B) (va_Qi (S := MI) Q (fun u t => HP K (u, J, B) t.heap) (AA K)) := by
  refine Con.ofJ RX9 rfl (by decide) (Nat.le_of_ble_eq_true rfl) (fun m H0 w G => ?_)
  unfold w_X9_again at h
  show Jg K m 2 H0 w 0 [(0, .ref a0), (1, .int x1)] [] (I, J, B)
  refine j_iload_n G 1 1 dX9_again_0 rfl rfl ?_
  refine j_if_lt G 18 dX9_again_1 (by decide) (fun c1 => ?_) (fun c1 => ?_)
  · have h := h.1 c1
    refine j_iconst G (0 : Int32) dX9_again_18 (by decide) ?_
    exact j_reti G I (by decide) dX9_again_19 h rfl
  · have h := h.2 c1
    refine j_iload_n G 1 1 dX9_again_4 rfl rfl ?_
    refine j_iconst G (3 : Int32) dX9_again_5 (by decide) ?_
    refine j_icmp_ge G 18 dX9_again_6 (by decide) (fun c2 => ?_) (fun c2 => ?_)
    · have h := h.1 c2
      refine j_iconst G (0 : Int32) dX9_again_18 (by decide) ?_
      exact j_reti G I (by decide) dX9_again_19 h rfl
    · have h := h.2 c2
      refine j_aload_n G 0 0 dX9_again_9 rfl rfl ?_
      have kk3 : kG K (a0 + 67) = (23, 3) := wk_11_67 hW k0
      refine j_get G hW 10 2 70 (.ref (a0 + 67)) k0 (by decide) rfl (by decide) rfl lay_X9 fl_X9_20 rfl rfl dX9_again_10 ?_
      refine j_iload_n G 1 1 dX9_again_13 rfl rfl ?_
      obtain ⟨b4, h⟩ := h
      refine j_zald G hW kk3 b4 dX9_again_14 ?_
      refine j_if_ne G 20 dX9_again_15 (by decide) (fun c5 => ?_) (fun c5 => ?_)
      · have h := h.1 c5
        refine j_aload_n G 0 0 dX9_again_20 rfl rfl ?_
        have kk6 : kG K (a0 + 1) = (10, 0) := wk_11_1 hW k0
        refine j_get G hW 10 0 4 (.ref (a0 + 1)) k0 (by decide) rfl (by decide) rfl lay_X9 fl_X9_12 rfl rfl dX9_again_21 ?_
        refine j_aload_n G 0 0 dX9_again_24 rfl rfl ?_
        have kk7 : kG K (a0 + 66) = (27, 3) := wk_11_66 hW k0
        refine j_get G hW 10 1 69 (.ref (a0 + 66)) k0 (by decide) rfl (by decide) rfl lay_X9 fl_X9_16 rfl rfl dX9_again_25 ?_
        refine j_iload_n G 1 1 dX9_again_28 rfl rfl ?_
        obtain ⟨b8, h⟩ := h
        have kk9 : (kG K (a0 + 179 + 65 * ix x1)).1 = 10 := wk_a27 (i := x1) hW kk7 b8 (ad2 rfl)
        refine j_aald27 G hW (i := x1) (b := a0 + 179 + 65 * ix x1) kk7 b8 (ad2 rfl) dX9_again_29 ?_
        refine j_cv (rn_V G hW (ci := 9) (n := 1) (As := [.ref (a0 + 179 + 65 * ix x1)]) (rest := []) (c_X8_copyFrom K hW l (a0 + 1) (a0 + 179 + 65 * ix x1) (congrArg Prod.fst kk6) kk9 I J B _ h) (congrArg Prod.fst kk6) (by decide) rfl ml_X9_239 im_X8_copyFrom se_X8_copyFrom in_X8 co_X8_copyFrom rfl (by decide +kernel) rfl rfl (by decide) (by decide) rfl rfl (Nat.le_of_ble_eq_true rfl) dX9_again_30) (fun I10 h => ?_)
        refine j_iconst G (1 : Int32) dX9_again_33 (by decide) ?_
        exact j_reti G I10 (by decide) dX9_again_34 h rfl
      · have h := h.2 c5
        refine j_iconst G (0 : Int32) dX9_again_18 (by decide) ?_
        exact j_reti G I (by decide) dX9_again_19 h rfl
