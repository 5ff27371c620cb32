abbrev rm_X1_toBeginning : Room := { frames := 2, cells := 0, slots := 0, locals := 48 }
def w_X1_toBeginning_l38 (a0 : Nat)  (ke68 : Int32 → MI → Prop) (Q : MI → Prop) (rec : Int32 → MI → Prop) (x1 : Int32) (I : MI) : Prop :=
(((6 : Int32) ≤ x1 → ke68 x1 I) ∧
(¬ (6 : Int32) ≤ x1 → (vp_in x1 6 ∧
(vp_in x1 6 ∧
(w_X3_clear (a0 + 39 + 3 * ix x1) (I (a0 + 3) (ix x1)) I (fun I15 =>
rec (x1 + 1) I15))))))
set_option maxHeartbeats 4000000 in
set_option maxRecDepth 100000 in
theorem m_X1_toBeginning_l38 {K : Kx} {l : Launch} {m : MethodId} {H0 : Heap} {Q : MI → Prop} {w : HW} {J : MJ} {B : MR} (G : Gd l rm_X1_toBeginning K m RX1 cX1_toBeginning 2 H0 none (va_Qv (S := MI) Q (fun u t => HP K (u, J, B) t.heap) (AA K)) w) (hW : WFK K) (a0 : Nat) (x1 : Int32) (ka0 : (kG K a0).1 = 3) (I : MI) (ke68 : Int32 → MI → Prop) (hke68 : ∀ (x1 : Int32) (I : MI), ke68 x1 I → Jg K m 2 H0 w 68 [(0, .ref a0)] [] (I, J, B)) (h : Lp2 (w_X1_toBeginning_l38 a0 ke68 Q) x1 I) : Jg K m 2 H0 w 38 [(0, .ref a0), (1, .int x1)] [] (I, J, B) := by
  obtain ⟨n, h⟩ := h
  refine lpN2_ind (P := (fun (x1 : Int32) (I : MI) => Jg K m 2 H0 w 38 [(0, .ref a0), (1, .int x1)] [] (I, J, B))) (fun rec hrec x1 I h => ?_) n x1 I h
  unfold w_X1_toBeginning_l38 at h
  refine j_iload_n G 1 1 dX1_toBeginning_38 rfl rfl ?_
  refine j_bipush G (6 : Int32) dX1_toBeginning_39 (by decide) ?_
  refine j_icmp_ge G 68 dX1_toBeginning_41 (by decide) (fun c8 => ?_) (fun c8 => ?_)
  · have h := h.1 c8
    exact Jg.sub [0] rfl (hke68 x1 I h)
  · have h := h.2 c8
    refine j_aload_n G 0 0 dX1_toBeginning_44 rfl rfl ?_
    have kk9 : kG K (a0 + 37) = (25, 6) := wk_3_37 hW ka0
    refine j_get G hW 2 3 40 (.ref (a0 + 37)) ka0 (by decide) rfl (by decide) rfl lay_X1 fl_X1_27 rfl rfl dX1_toBeginning_45 ?_
    refine j_iload_n G 1 1 dX1_toBeginning_48 rfl rfl ?_
    obtain ⟨b10, h⟩ := h
    have kk11 : (kG K (a0 + 39 + 3 * ix x1)).1 = 5 := wk_a25 (i := x1) hW kk9 b10 (ad2 rfl)
    refine j_aald25 G hW (i := x1) (b := a0 + 39 + 3 * ix x1) kk9 b10 (ad2 rfl) dX1_toBeginning_49 ?_
    refine j_aload_n G 0 0 dX1_toBeginning_50 rfl rfl ?_
    have kk12 : kG K (a0 + 1) = (4, 0) := wk_3_1 hW ka0
    refine j_get G hW 2 0 4 (.ref (a0 + 1)) ka0 (by decide) rfl (by decide) rfl lay_X1 fl_X1_12 rfl rfl dX1_toBeginning_51 ?_
    have kk13 : kG K (a0 + 3) = (20, 6) := wk_4_2 hW (congrArg Prod.fst kk12)
    refine j_get G hW 3 5 5 (.ref (a0 + 3)) (congrArg Prod.fst kk12) (by decide) rfl (by decide) rfl lay_X2 fl_X1_52 rfl rfl dX1_toBeginning_54 ?_
    refine j_iload_n G 1 1 dX1_toBeginning_57 rfl rfl ?_
    obtain ⟨b14, h⟩ := h
    refine j_iald G hW kk13 b14 dX1_toBeginning_58 ?_
    refine j_cv (rn_V G hW (ci := 4) (n := 1) (As := [.int (I (a0 + 3) (ix x1))]) (rest := []) (c_X3_clear K hW l (a0 + 39 + 3 * ix x1) (I (a0 + 3) (ix x1)) kk11 I J B _ h) kk11 (by decide) rfl ml_X1_55 im_X3_clear se_X3_clear in_X3 co_X3_clear rfl (by decide +kernel) rfl rfl (by decide) (by decide) rfl rfl (Nat.le_of_ble_eq_true rfl) dX1_toBeginning_59) (fun I15 h => ?_)
    refine j_iinc G 1 (x1 + 1) [(1, .int (x1 + 1)), (0, .ref a0)] dX1_toBeginning_62 rfl rfl (by decide) rfl ?_
    refine j_goto G 38 dX1_toBeginning_65 (by decide) ?_
    exact Jg.sub [1, 0] rfl (hrec (x1 + 1) I15 h)
def w_X1_toBeginning_l70 (a0 : Nat)  (ke90 : Int32 → MI → Prop) (Q : MI → Prop) (rec : Int32 → MI → Prop) (x1 : Int32) (I : MI) : Prop :=
(((2 : Int32) ≤ x1 → ke90 x1 I) ∧
(¬ (2 : Int32) ≤ x1 → (vp_in x1 2 ∧
(w_X5_toBeginning (a0 + 57 + 3 * ix x1) I (fun I22 =>
rec (x1 + 1) I22)))))
set_option maxHeartbeats 4000000 in
set_option maxRecDepth 100000 in
theorem m_X1_toBeginning_l70 {K : Kx} {l : Launch} {m : MethodId} {H0 : Heap} {Q : MI → Prop} {w : HW} {J : MJ} {B : MR} (G : Gd l rm_X1_toBeginning K m RX1 cX1_toBeginning 2 H0 none (va_Qv (S := MI) Q (fun u t => HP K (u, J, B) t.heap) (AA K)) w) (hW : WFK K) (a0 : Nat) (x1 : Int32) (ka0 : (kG K a0).1 = 3) (I : MI) (ke90 : Int32 → MI → Prop) (hke90 : ∀ (x1 : Int32) (I : MI), ke90 x1 I → Jg K m 2 H0 w 90 [(0, .ref a0)] [] (I, J, B)) (h : Lp2 (w_X1_toBeginning_l70 a0 ke90 Q) x1 I) : Jg K m 2 H0 w 70 [(0, .ref a0), (1, .int x1)] [] (I, J, B) := by
  obtain ⟨n, h⟩ := h
  refine lpN2_ind (P := (fun (x1 : Int32) (I : MI) => Jg K m 2 H0 w 70 [(0, .ref a0), (1, .int x1)] [] (I, J, B))) (fun rec hrec x1 I h => ?_) n x1 I h
  unfold w_X1_toBeginning_l70 at h
  refine j_iload_n G 1 1 dX1_toBeginning_70 rfl rfl ?_
  refine j_iconst G (2 : Int32) dX1_toBeginning_71 (by decide) ?_
  refine j_icmp_ge G 90 dX1_toBeginning_72 (by decide) (fun c18 => ?_) (fun c18 => ?_)
  · have h := h.1 c18
    exact Jg.sub [0] rfl (hke90 x1 I h)
  · have h := h.2 c18
    refine j_aload_n G 0 0 dX1_toBeginning_75 rfl rfl ?_
    have kk19 : kG K (a0 + 38) = (26, 2) := wk_3_38 hW ka0
    refine j_get G hW 2 4 41 (.ref (a0 + 38)) ka0 (by decide) rfl (by decide) rfl lay_X1 fl_X1_33 rfl rfl dX1_toBeginning_76 ?_
    refine j_iload_n G 1 1 dX1_toBeginning_79 rfl rfl ?_
    obtain ⟨b20, h⟩ := h
    have kk21 : (kG K (a0 + 57 + 3 * ix x1)).1 = 7 := wk_a26 (i := x1) hW kk19 b20 (ad2 rfl)
    refine j_aald26 G hW (i := x1) (b := a0 + 57 + 3 * ix x1) kk19 b20 (ad2 rfl) dX1_toBeginning_80 ?_
    refine j_cv (rn_V G hW (ci := 6) (n := 0) (As := []) (rest := []) (c_X5_toBeginning K hW l (a0 + 57 + 3 * ix x1) kk21 I J B _ h) kk21 (by decide) rfl ml_X1_58 im_X5_toBeginning se_X5_toBeginning in_X5 co_X5_toBeginning rfl (by decide +kernel) rfl rfl (by decide) (by decide) rfl rfl (Nat.le_of_ble_eq_true rfl) dX1_toBeginning_81) (fun I22 h => ?_)
    refine j_iinc G 1 (x1 + 1) [(1, .int (x1 + 1)), (0, .ref a0)] dX1_toBeginning_84 rfl rfl (by decide) rfl ?_
    refine j_goto G 70 dX1_toBeginning_87 (by decide) ?_
    exact Jg.sub [1, 0] rfl (hrec (x1 + 1) I22 h)
def w_X1_toBeginning (a0 : Nat) (I : MI) (Q : MI → Prop) : Prop :=
(∀ I4, I4 = uc I (a0 + 5) (a0 + 35) 8 →
(∀ I7, I7 = uc I4 (a0 + 4) (a0 + 36) 32 →
Lp2 (w_X1_toBeginning_l38 a0 (fun x1_16 I17 => Lp2 (w_X1_toBeginning_l70 a0 (fun x1_23 I24 => (∀ I25, I25 = ui I24 a0 5 (0 : Int32) →
(∀ I26, I26 = ui I25 a0 6 (0 : Int32) →
(∀ I27, I27 = ui I26 a0 7 (I26 (a0 + 1) 2) →
(∀ I28, I28 = ui I27 a0 8 (0 : Int32) →
(∀ I29, I29 = ui I28 a0 9 (0 : Int32) →
(∀ I30, I30 = ui I29 a0 10 (0 : Int32) →
(∀ I31, I31 = ui I30 a0 11 (0 : Int32) →
(∀ I32, I32 = ui I31 a0 12 (0 : Int32) →
(∀ I33, I33 = ui I32 a0 13 (-1 : Int32) →
(∀ I34, I34 = ui I33 a0 14 (0 : Int32) →
Q I34))))))))))) Q) (0 : Int32) I17) Q) (0 : Int32) I7))
set_option maxHeartbeats 4000000 in
set_option maxRecDepth 100000 in
theorem c_X1_toBeginning (K : Kx) (hW : WFK K) (l : Launch) (a0 : Nat) (k0 : (kG K a0).1 = 3) (I : MI) (J : MJ) (B : MR) (Q : MI → Prop) (h : w_X1_toBeginning a0 I Q) : Con K l yX1_toBeginning (wsT yX1_toBeginning cX1_toBeginning 2 none) rm_X1_toBeginning [.ref a0] (I, J, B) (va_Qv (S := MI) Q (fun u t => HP K (u, J, B) t.heap) (AA K)) := by
  refine Con.ofJ RX1 rfl (by decide) (Nat.le_of_ble_eq_true rfl) (fun m H0 w G => ?_)
  unfold w_X1_toBeginning at h
  show Jg K m 2 H0 w 0 [(0, .ref a0)] [] (I, J, B)
  refine j_aload_n G 0 0 dX1_toBeginning_0 rfl rfl ?_
  have kk1 : kG K (a0 + 1) = (4, 0) := wk_3_1 hW k0
  refine j_get G hW 2 0 4 (.ref (a0 + 1)) k0 (by decide) rfl (by decide) rfl lay_X1 fl_X1_12 rfl rfl dX1_toBeginning_1 ?_
  have kk2 : kG K (a0 + 5) = (20, 8) := wk_4_4 hW (congrArg Prod.fst kk1)
  refine j_get G hW 3 7 7 (.ref (a0 + 5)) (congrArg Prod.fst kk1) (by decide) rfl (by decide) rfl lay_X2 fl_X1_44 rfl rfl dX1_toBeginning_4 ?_
  refine j_iconst G (0 : Int32) dX1_toBeginning_7 (by decide) ?_
  refine j_aload_n G 0 0 dX1_toBeginning_8 rfl rfl ?_
  have kk3 : kG K (a0 + 35) = (20, 8) := wk_3_35 hW k0
  refine j_get G hW 2 1 38 (.ref (a0 + 35)) k0 (by decide) rfl (by decide) rfl lay_X1 fl_X1_18 rfl rfl dX1_toBeginning_9 ?_
  refine j_iconst G (0 : Int32) dX1_toBeginning_12 (by decide) ?_
  refine j_bipush G (8 : Int32) dX1_toBeginning_13 (by decide) ?_
  refine j_copyi G hW 8 kk2 kk3 (by decide) (by decide) (by decide) (by decide) ml_X1_45 nat_copy st_copy in_J10 (by decide) (by decide) (Nat.le_of_ble_eq_true rfl) dX1_toBeginning_15 ?_
  refine j_mI (fun I4 eI4 => ?_)
  have h := h I4 eI4
  refine j_aload_n G 0 0 dX1_toBeginning_18 rfl rfl ?_
  refine j_get G hW 2 0 4 (.ref (a0 + 1)) k0 (by decide) rfl (by decide) rfl lay_X1 fl_X1_12 rfl rfl dX1_toBeginning_19 ?_
  have kk5 : kG K (a0 + 4) = (20, 32) := wk_4_3 hW (congrArg Prod.fst kk1)
  refine j_get G hW 3 6 6 (.ref (a0 + 4)) (congrArg Prod.fst kk1) (by decide) rfl (by decide) rfl lay_X2 fl_X1_51 rfl rfl dX1_toBeginning_22 ?_
  refine j_iconst G (0 : Int32) dX1_toBeginning_25 (by decide) ?_
  refine j_aload_n G 0 0 dX1_toBeginning_26 rfl rfl ?_
  have kk6 : kG K (a0 + 36) = (20, 32) := wk_3_36 hW k0
  refine j_get G hW 2 2 39 (.ref (a0 + 36)) k0 (by decide) rfl (by decide) rfl lay_X1 fl_X1_22 rfl rfl dX1_toBeginning_27 ?_
  refine j_iconst G (0 : Int32) dX1_toBeginning_30 (by decide) ?_
  refine j_bipush G (32 : Int32) dX1_toBeginning_31 (by decide) ?_
  refine j_copyi G hW 32 kk5 kk6 (by decide) (by decide) (by decide) (by decide) ml_X1_45 nat_copy st_copy in_J10 (by decide) (by decide) (Nat.le_of_ble_eq_true rfl) dX1_toBeginning_33 ?_
  refine j_mI (fun I7 eI7 => ?_)
  have h := h I7 eI7
  refine j_iconst G (0 : Int32) dX1_toBeginning_36 (by decide) ?_
  refine j_istore_n G 1 [(1, .int (0 : Int32)), (0, .ref a0)] dX1_toBeginning_37 rfl (by decide) rfl ?_
  refine Jg.sub [1, 0] rfl (m_X1_toBeginning_l38 G hW a0 (0 : Int32) k0 I7 _ ?_ h)
  intro x1_16 I17 h
  refine j_iconst G (0 : Int32) dX1_toBeginning_68 (by decide) ?_
  refine j_istore_n G 1 [(1, .int (0 : Int32)), (0, .ref a0)] dX1_toBeginning_69 rfl (by decide) rfl ?_
  refine Jg.sub [1, 0] rfl (m_X1_toBeginning_l70 G hW a0 (0 : Int32) k0 I17 _ ?_ h)
  intro x1_23 I24 h
  refine j_aload_n G 0 0 dX1_toBeginning_90 rfl rfl ?_
  refine j_iconst G (0 : Int32) dX1_toBeginning_91 (by decide) ?_
  refine j_put G hW 2 5 tyX1 (tyX1 5) tyX1_ok nmX1 k0 (by decide) rfl (by decide) rfl lay_X1 fl_X1_59 rfl rfl (tyX1_ok 5 (by decide)) rfl rfl dX1_toBeginning_92 ?_
  refine j_mI (fun I25 eI25 => ?_)
  have h := h I25 eI25
  refine j_aload_n G 0 0 dX1_toBeginning_95 rfl rfl ?_
  refine j_iconst G (0 : Int32) dX1_toBeginning_96 (by decide) ?_
  refine j_put G hW 2 6 tyX1 (tyX1 6) tyX1_ok nmX1 k0 (by decide) rfl (by decide) rfl lay_X1 fl_X1_63 rfl rfl (tyX1_ok 6 (by decide)) rfl rfl dX1_toBeginning_97 ?_
  refine j_mI (fun I26 eI26 => ?_)
  have h := h I26 eI26
  refine j_aload_n G 0 0 dX1_toBeginning_100 rfl rfl ?_
  refine j_aload_n G 0 0 dX1_toBeginning_101 rfl rfl ?_
  refine j_get G hW 2 0 4 (.ref (a0 + 1)) k0 (by decide) rfl (by decide) rfl lay_X1 fl_X1_12 rfl rfl dX1_toBeginning_102 ?_
  refine j_get G hW 3 2 0 (.int (I26 (a0 + 1) 2)) (congrArg Prod.fst kk1) (by decide) rfl (by decide) rfl lay_X2 fl_X1_66 rfl rfl dX1_toBeginning_105 ?_
  refine j_put G hW 2 7 tyX1 (tyX1 7) tyX1_ok nmX1 k0 (by decide) rfl (by decide) rfl lay_X1 fl_X1_69 rfl rfl (tyX1_ok 7 (by decide)) rfl rfl dX1_toBeginning_108 ?_
  refine j_mI (fun I27 eI27 => ?_)
  have h := h I27 eI27
  refine j_aload_n G 0 0 dX1_toBeginning_111 rfl rfl ?_
  refine j_iconst G (0 : Int32) dX1_toBeginning_112 (by decide) ?_
  refine j_put G hW 2 8 tyX1 (tyX1 8) tyX1_ok nmX1 k0 (by decide) rfl (by decide) rfl lay_X1 fl_X1_70 rfl rfl (tyX1_ok 8 (by decide)) rfl rfl dX1_toBeginning_113 ?_
  refine j_mI (fun I28 eI28 => ?_)
  have h := h I28 eI28
  refine j_aload_n G 0 0 dX1_toBeginning_116 rfl rfl ?_
  refine j_iconst G (0 : Int32) dX1_toBeginning_117 (by decide) ?_
  refine j_put G hW 2 9 tyX1 (tyX1 9) tyX1_ok nmX1 k0 (by decide) rfl (by decide) rfl lay_X1 fl_X1_73 rfl rfl (tyX1_ok 9 (by decide)) rfl rfl dX1_toBeginning_118 ?_
  refine j_mI (fun I29 eI29 => ?_)
  have h := h I29 eI29
  refine j_aload_n G 0 0 dX1_toBeginning_121 rfl rfl ?_
  refine j_iconst G (0 : Int32) dX1_toBeginning_122 (by decide) ?_
  refine j_put G hW 2 10 tyX1 (tyX1 10) tyX1_ok nmX1 k0 (by decide) rfl (by decide) rfl lay_X1 fl_X1_76 rfl rfl (tyX1_ok 10 (by decide)) rfl rfl dX1_toBeginning_123 ?_
  refine j_mI (fun I30 eI30 => ?_)
  have h := h I30 eI30
  refine j_aload_n G 0 0 dX1_toBeginning_126 rfl rfl ?_
  refine j_iconst G (0 : Int32) dX1_toBeginning_127 (by decide) ?_
  refine j_put G hW 2 11 tyX1 (tyX1 11) tyX1_ok nmX1 k0 (by decide) rfl (by decide) rfl lay_X1 fl_X1_79 rfl rfl (tyX1_ok 11 (by decide)) rfl rfl dX1_toBeginning_128 ?_
  refine j_mI (fun I31 eI31 => ?_)
  have h := h I31 eI31
  refine j_aload_n G 0 0 dX1_toBeginning_131 rfl rfl ?_
  refine j_iconst G (0 : Int32) dX1_toBeginning_132 (by decide) ?_
  refine j_put G hW 2 12 tyX1 (tyX1 12) tyX1_ok nmX1 k0 (by decide) rfl (by decide) rfl lay_X1 fl_X1_82 rfl rfl (tyX1_ok 12 (by decide)) rfl rfl dX1_toBeginning_133 ?_
  refine j_mI (fun I32 eI32 => ?_)
  have h := h I32 eI32
  refine j_aload_n G 0 0 dX1_toBeginning_136 rfl rfl ?_
  refine j_iconst G (-1 : Int32) dX1_toBeginning_137 (by decide) ?_
  refine j_put G hW 2 13 tyX1 (tyX1 13) tyX1_ok nmX1 k0 (by decide) rfl (by decide) rfl lay_X1 fl_X1_85 rfl rfl (tyX1_ok 13 (by decide)) rfl rfl dX1_toBeginning_138 ?_
  refine j_mI (fun I33 eI33 => ?_)
  have h := h I33 eI33
  refine j_aload_n G 0 0 dX1_toBeginning_141 rfl rfl ?_
  refine j_iconst G (0 : Int32) dX1_toBeginning_142 (by decide) ?_
  refine j_put G hW 2 14 tyX1 (tyX1 14) tyX1_ok nmX1 k0 (by decide) rfl (by decide) rfl lay_X1 fl_X1_88 rfl rfl (tyX1_ok 14 (by decide)) rfl rfl dX1_toBeginning_143 ?_
  refine j_mI (fun I34 eI34 => ?_)
  have h := h I34 eI34
  exact j_retv G I34 dX1_toBeginning_146 h rfl
abbrev rm_X1_copyFrom : Room := { frames := 2, cells := 0, slots := 0, locals := 70 }
def w_X1_copyFrom_l43 (a0 : Nat) (a1 : Nat)  (ke70 : Int32 → MI → Prop) (Q : MI → Prop) (rec : Int32 → MI → Prop) (x2 : Int32) (I : MI) : Prop :=
(((6 : Int32) ≤ x2 → ke70 x2 I) ∧
(¬ (6 : Int32) ≤ x2 → (vp_in x2 6 ∧
(vp_in x2 6 ∧
(w_X3_copyFrom (a0 + 39 + 3 * ix x2) (a1 + 39 + 3 * ix x2) I (fun I17 =>
rec (x2 + 1) I17))))))
set_option maxHeartbeats 4000000 in
set_option maxRecDepth 100000 in
theorem m_X1_copyFrom_l43 {K : Kx} {l : Launch} {m : MethodId} {H0 : Heap} {Q : MI → Prop} {w : HW} {J : MJ} {B : MR} (G : Gd l rm_X1_copyFrom K m RX1 cX1_copyFrom 3 H0 none (va_Qv (S := MI) Q (fun u t => HP K (u, J, B) t.heap) (AA K)) w) (hW : WFK K) (a0 : Nat) (a1 : Nat) (x2 : Int32) (ka0 : (kG K a0).1 = 3) (ka1 : (kG K a1).1 = 3) (I : MI) (ke70 : Int32 → MI → Prop) (hke70 : ∀ (x2 : Int32) (I : MI), ke70 x2 I → Jg K m 3 H0 w 70 [(0, .ref a0), (1, .ref a1)] [] (I, J, B)) (h : Lp2 (w_X1_copyFrom_l43 a0 a1 ke70 Q) x2 I) : Jg K m 3 H0 w 43 [(0, .ref a0), (1, .ref a1), (2, .int x2)] [] (I, J, B) := by
  obtain ⟨n, h⟩ := h
  refine lpN2_ind (P := (fun (x2 : Int32) (I : MI) => Jg K m 3 H0 w 43 [(0, .ref a0), (1, .ref a1), (2, .int x2)] [] (I, J, B))) (fun rec hrec x2 I h => ?_) n x2 I h
  unfold w_X1_copyFrom_l43 at h
  refine j_iload_n G 2 2 dX1_copyFrom_43 rfl rfl ?_
  refine j_bipush G (6 : Int32) dX1_copyFrom_44 (by decide) ?_
  refine j_icmp_ge G 70 dX1_copyFrom_46 (by decide) (fun c10 => ?_) (fun c10 => ?_)
  · have h := h.1 c10
    exact Jg.sub [0, 1] rfl (hke70 x2 I h)
  · have h := h.2 c10
    refine j_aload_n G 0 0 dX1_copyFrom_49 rfl rfl ?_
    have kk11 : kG K (a0 + 37) = (25, 6) := wk_3_37 hW ka0
    refine j_get G hW 2 3 40 (.ref (a0 + 37)) ka0 (by decide) rfl (by decide) rfl lay_X1 fl_X1_27 rfl rfl dX1_copyFrom_50 ?_
    refine j_iload_n G 2 2 dX1_copyFrom_53 rfl rfl ?_
    obtain ⟨b12, h⟩ := h
    have kk13 : (kG K (a0 + 39 + 3 * ix x2)).1 = 5 := wk_a25 (i := x2) hW kk11 b12 (ad2 rfl)
    refine j_aald25 G hW (i := x2) (b := a0 + 39 + 3 * ix x2) kk11 b12 (ad2 rfl) dX1_copyFrom_54 ?_
    refine j_aload_n G 1 1 dX1_copyFrom_55 rfl rfl ?_
    have kk14 : kG K (a1 + 37) = (25, 6) := wk_3_37 hW ka1
    refine j_get G hW 2 3 40 (.ref (a1 + 37)) ka1 (by decide) rfl (by decide) rfl lay_X1 fl_X1_27 rfl rfl dX1_copyFrom_56 ?_
    refine j_iload_n G 2 2 dX1_copyFrom_59 rfl rfl ?_
    obtain ⟨b15, h⟩ := h
    have kk16 : (kG K (a1 + 39 + 3 * ix x2)).1 = 5 := wk_a25 (i := x2) hW kk14 b15 (ad2 rfl)
    refine j_aald25 G hW (i := x2) (b := a1 + 39 + 3 * ix x2) kk14 b15 (ad2 rfl) dX1_copyFrom_60 ?_
    refine j_cv (rn_V G hW (ci := 4) (n := 1) (As := [.ref (a1 + 39 + 3 * ix x2)]) (rest := []) (c_X3_copyFrom K hW l (a0 + 39 + 3 * ix x2) (a1 + 39 + 3 * ix x2) kk13 kk16 I J B _ h) kk13 (by decide) rfl ml_X1_95 im_X3_copyFrom se_X3_copyFrom in_X3 co_X3_copyFrom rfl (by decide +kernel) rfl rfl (by decide) (by decide) rfl rfl (Nat.le_of_ble_eq_true rfl) dX1_copyFrom_61) (fun I17 h => ?_)
    refine j_iinc G 2 (x2 + 1) [(2, .int (x2 + 1)), (0, .ref a0), (1, .ref a1)] dX1_copyFrom_64 rfl rfl (by decide) rfl ?_
    refine j_goto G 43 dX1_copyFrom_67 (by decide) ?_
    exact Jg.sub [1, 2, 0] rfl (hrec (x2 + 1) I17 h)
def w_X1_copyFrom_l72 (a0 : Nat) (a1 : Nat)  (ke98 : Int32 → MI → Prop) (Q : MI → Prop) (rec : Int32 → MI → Prop) (x2 : Int32) (I : MI) : Prop :=
(((2 : Int32) ≤ x2 → ke98 x2 I) ∧
(¬ (2 : Int32) ≤ x2 → (vp_in x2 2 ∧
(vp_in x2 2 ∧
(w_X5_copyFrom (a0 + 57 + 3 * ix x2) (a1 + 57 + 3 * ix x2) I (fun I27 =>
rec (x2 + 1) I27))))))
set_option maxHeartbeats 4000000 in
set_option maxRecDepth 100000 in
theorem m_X1_copyFrom_l72 {K : Kx} {l : Launch} {m : MethodId} {H0 : Heap} {Q : MI → Prop} {w : HW} {J : MJ} {B : MR} (G : Gd l rm_X1_copyFrom K m RX1 cX1_copyFrom 3 H0 none (va_Qv (S := MI) Q (fun u t => HP K (u, J, B) t.heap) (AA K)) w) (hW : WFK K) (a0 : Nat) (a1 : Nat) (x2 : Int32) (ka0 : (kG K a0).1 = 3) (ka1 : (kG K a1).1 = 3) (I : MI) (ke98 : Int32 → MI → Prop) (hke98 : ∀ (x2 : Int32) (I : MI), ke98 x2 I → Jg K m 3 H0 w 98 [(0, .ref a0), (1, .ref a1)] [] (I, J, B)) (h : Lp2 (w_X1_copyFrom_l72 a0 a1 ke98 Q) x2 I) : Jg K m 3 H0 w 72 [(0, .ref a0), (1, .ref a1), (2, .int x2)] [] (I, J, B) := by
  obtain ⟨n, h⟩ := h
  refine lpN2_ind (P := (fun (x2 : Int32) (I : MI) => Jg K m 3 H0 w 72 [(0, .ref a0), (1, .ref a1), (2, .int x2)] [] (I, J, B))) (fun rec hrec x2 I h => ?_) n x2 I h
  unfold w_X1_copyFrom_l72 at h
  refine j_iload_n G 2 2 dX1_copyFrom_72 rfl rfl ?_
  refine j_iconst G (2 : Int32) dX1_copyFrom_73 (by decide) ?_
  refine j_icmp_ge G 98 dX1_copyFrom_74 (by decide) (fun c20 => ?_) (fun c20 => ?_)
  · have h := h.1 c20
    exact Jg.sub [0, 1] rfl (hke98 x2 I h)
  · have h := h.2 c20
    refine j_aload_n G 0 0 dX1_copyFrom_77 rfl rfl ?_
    have kk21 : kG K (a0 + 38) = (26, 2) := wk_3_38 hW ka0
    refine j_get G hW 2 4 41 (.ref (a0 + 38)) ka0 (by decide) rfl (by decide) rfl lay_X1 fl_X1_33 rfl rfl dX1_copyFrom_78 ?_
    refine j_iload_n G 2 2 dX1_copyFrom_81 rfl rfl ?_
    obtain ⟨b22, h⟩ := h
    have kk23 : (kG K (a0 + 57 + 3 * ix x2)).1 = 7 := wk_a26 (i := x2) hW kk21 b22 (ad2 rfl)
    refine j_aald26 G hW (i := x2) (b := a0 + 57 + 3 * ix x2) kk21 b22 (ad2 rfl) dX1_copyFrom_82 ?_
    refine j_aload_n G 1 1 dX1_copyFrom_83 rfl rfl ?_
    have kk24 : kG K (a1 + 38) = (26, 2) := wk_3_38 hW ka1
    refine j_get G hW 2 4 41 (.ref (a1 + 38)) ka1 (by decide) rfl (by decide) rfl lay_X1 fl_X1_33 rfl rfl dX1_copyFrom_84 ?_
    refine j_iload_n G 2 2 dX1_copyFrom_87 rfl rfl ?_
    obtain ⟨b25, h⟩ := h
    have kk26 : (kG K (a1 + 57 + 3 * ix x2)).1 = 7 := wk_a26 (i := x2) hW kk24 b25 (ad2 rfl)
    refine j_aald26 G hW (i := x2) (b := a1 + 57 + 3 * ix x2) kk24 b25 (ad2 rfl) dX1_copyFrom_88 ?_
    refine j_cv (rn_V G hW (ci := 6) (n := 1) (As := [.ref (a1 + 57 + 3 * ix x2)]) (rest := []) (c_X5_copyFrom K hW l (a0 + 57 + 3 * ix x2) (a1 + 57 + 3 * ix x2) kk23 kk26 I J B _ h) kk23 (by decide) rfl ml_X1_98 im_X5_copyFrom se_X5_copyFrom in_X5 co_X5_copyFrom rfl (by decide +kernel) rfl rfl (by decide) (by decide) rfl rfl (Nat.le_of_ble_eq_true rfl) dX1_copyFrom_89) (fun I27 h => ?_)
    refine j_iinc G 2 (x2 + 1) [(2, .int (x2 + 1)), (0, .ref a0), (1, .ref a1)] dX1_copyFrom_92 rfl rfl (by decide) rfl ?_
    refine j_goto G 72 dX1_copyFrom_95 (by decide) ?_
    exact Jg.sub [1, 2, 0] rfl (hrec (x2 + 1) I27 h)
def w_X1_copyFrom (a0 : Nat) (a1 : Nat) (I : MI) (Q : MI → Prop) : Prop :=
(w_X2_copyFrom (a0 + 1) (a1 + 1) I (fun I3 =>
(∀ I6, I6 = uc I3 (a1 + 35) (a0 + 35) 8 →
(∀ I9, I9 = uc I6 (a1 + 36) (a0 + 36) 32 →
Lp2 (w_X1_copyFrom_l43 a0 a1 (fun x2_18 I19 => Lp2 (w_X1_copyFrom_l72 a0 a1 (fun x2_28 I29 => (∀ I30, I30 = ui I29 a0 5 (I29 a1 5) →
(∀ I31, I31 = ui I30 a0 6 (I30 a1 6) →
(∀ I32, I32 = ui I31 a0 7 (I31 a1 7) →
(∀ I33, I33 = ui I32 a0 8 (I32 a1 8) →
(∀ I34, I34 = ui I33 a0 9 (I33 a1 9) →
(∀ I35, I35 = ui I34 a0 10 (I34 a1 10) →
(∀ I36, I36 = ui I35 a0 11 (I35 a1 11) →
(∀ I37, I37 = ui I36 a0 12 (I36 a1 12) →
(∀ I38, I38 = ui I37 a0 13 (I37 a1 13) →
(∀ I39, I39 = ui I38 a0 14 (I38 a1 14) →
Q I39))))))))))) Q) (0 : Int32) I19) Q) (0 : Int32) I9))))
set_option maxHeartbeats 4000000 in
set_option maxRecDepth 100000 in
theorem c_X1_copyFrom (K : Kx) (hW : WFK K) (l : Launch) (a0 : Nat) (a1 : Nat) (k0 : (kG K a0).1 = 3) (k1 : (kG K a1).1 = 3) (I : MI) (J : MJ) (B : MR) (Q : MI → Prop) (h : w_X1_copyFrom a0 a1 I Q) : Con K l yX1_copyFrom (wsT yX1_copyFrom cX1_copyFrom 3 none) rm_X1_copyFrom [.ref a0, .ref a1] (I, J, B) (va_Qv (S := MI) Q (fun u t => HP K (u, J, B) t.heap) (AA K)) := by
  refine Con.ofJ RX1 rfl (by decide) (Nat.le_of_ble_eq_true rfl) (fun m H0 w G => ?_)
  unfold w_X1_copyFrom at h
  show Jg K m 3 H0 w 0 [(0, .ref a0), (1, .ref a1)] [] (I, J, B)
  refine j_aload_n G 0 0 dX1_copyFrom_0 rfl rfl ?_
  have kk1 : kG K (a0 + 1) = (4, 0) := wk_3_1 hW k0
  refine j_get G hW 2 0 4 (.ref (a0 + 1)) k0 (by decide) rfl (by decide) rfl lay_X1 fl_X1_12 rfl rfl dX1_copyFrom_1 ?_
  refine j_aload_n G 1 1 dX1_copyFrom_4 rfl rfl ?_
  have kk2 : kG K (a1 + 1) = (4, 0) := wk_3_1 hW k1
  refine j_get G hW 2 0 4 (.ref (a1 + 1)) k1 (by decide) rfl (by decide) rfl lay_X1 fl_X1_12 rfl rfl dX1_copyFrom_5 ?_
  refine j_cv (rn_V G hW (ci := 3) (n := 1) (As := [.ref (a1 + 1)]) (rest := []) (c_X2_copyFrom K hW l (a0 + 1) (a1 + 1) (congrArg Prod.fst kk1) (congrArg Prod.fst kk2) I J B _ h) (congrArg Prod.fst kk1) (by decide) rfl ml_X1_91 im_X2_copyFrom se_X2_copyFrom in_X2 co_X2_copyFrom rfl (by decide +kernel) rfl rfl (by decide) (by decide) rfl rfl (Nat.le_of_ble_eq_true rfl) dX1_copyFrom_8) (fun I3 h => ?_)
  refine j_aload_n G 1 1 dX1_copyFrom_11 rfl rfl ?_
  have kk4 : kG K (a1 + 35) = (20, 8) := wk_3_35 hW k1
  refine j_get G hW 2 1 38 (.ref (a1 + 35)) k1 (by decide) rfl (by decide) rfl lay_X1 fl_X1_18 rfl rfl dX1_copyFrom_12 ?_
  refine j_iconst G (0 : Int32) dX1_copyFrom_15 (by decide) ?_
  refine j_aload_n G 0 0 dX1_copyFrom_16 rfl rfl ?_
  have kk5 : kG K (a0 + 35) = (20, 8) := wk_3_35 hW k0
  refine j_get G hW 2 1 38 (.ref (a0 + 35)) k0 (by decide) rfl (by decide) rfl lay_X1 fl_X1_18 rfl rfl dX1_copyFrom_17 ?_
  refine j_iconst G (0 : Int32) dX1_copyFrom_20 (by decide) ?_
  refine j_bipush G (8 : Int32) dX1_copyFrom_21 (by decide) ?_
  refine j_copyi G hW 8 kk4 kk5 (by decide) (by decide) (by decide) (by decide) ml_X1_45 nat_copy st_copy in_J10 (by decide) (by decide) (Nat.le_of_ble_eq_true rfl) dX1_copyFrom_23 ?_
  refine j_mI (fun I6 eI6 => ?_)
  have h := h I6 eI6
  refine j_aload_n G 1 1 dX1_copyFrom_26 rfl rfl ?_
  have kk7 : kG K (a1 + 36) = (20, 32) := wk_3_36 hW k1
  refine j_get G hW 2 2 39 (.ref (a1 + 36)) k1 (by decide) rfl (by decide) rfl lay_X1 fl_X1_22 rfl rfl dX1_copyFrom_27 ?_
  refine j_iconst G (0 : Int32) dX1_copyFrom_30 (by decide) ?_
  refine j_aload_n G 0 0 dX1_copyFrom_31 rfl rfl ?_
  have kk8 : kG K (a0 + 36) = (20, 32) := wk_3_36 hW k0
  refine j_get G hW 2 2 39 (.ref (a0 + 36)) k0 (by decide) rfl (by decide) rfl lay_X1 fl_X1_22 rfl rfl dX1_copyFrom_32 ?_
  refine j_iconst G (0 : Int32) dX1_copyFrom_35 (by decide) ?_
  refine j_bipush G (32 : Int32) dX1_copyFrom_36 (by decide) ?_
  refine j_copyi G hW 32 kk7 kk8 (by decide) (by decide) (by decide) (by decide) ml_X1_45 nat_copy st_copy in_J10 (by decide) (by decide) (Nat.le_of_ble_eq_true rfl) dX1_copyFrom_38 ?_
  refine j_mI (fun I9 eI9 => ?_)
  have h := h I9 eI9
  refine j_iconst G (0 : Int32) dX1_copyFrom_41 (by decide) ?_
  refine j_istore_n G 2 [(2, .int (0 : Int32)), (0, .ref a0), (1, .ref a1)] dX1_copyFrom_42 rfl (by decide) rfl ?_
  refine Jg.sub [1, 2, 0] rfl (m_X1_copyFrom_l43 G hW a0 a1 (0 : Int32) k0 k1 I9 _ ?_ h)
  intro x2_18 I19 h
  refine j_iconst G (0 : Int32) dX1_copyFrom_70 (by decide) ?_
  refine j_istore_n G 2 [(2, .int (0 : Int32)), (0, .ref a0), (1, .ref a1)] dX1_copyFrom_71 rfl (by decide) rfl ?_
  refine Jg.sub [1, 2, 0] rfl (m_X1_copyFrom_l72 G hW a0 a1 (0 : Int32) k0 k1 I19 _ ?_ h)
  intro x2_28 I29 h
  refine j_aload_n G 0 0 dX1_copyFrom_98 rfl rfl ?_
  refine j_aload_n G 1 1 dX1_copyFrom_99 rfl rfl ?_
  refine j_get G hW 2 5 0 (.int (I29 a1 5)) k1 (by decide) rfl (by decide) rfl lay_X1 fl_X1_59 rfl rfl dX1_copyFrom_100 ?_
  refine j_put G hW 2 5 tyX1 (tyX1 5) tyX1_ok nmX1 k0 (by decide) rfl (by decide) rfl lay_X1 fl_X1_59 rfl rfl (tyX1_ok 5 (by decide)) rfl rfl dX1_copyFrom_103 ?_
  refine j_mI (fun I30 eI30 => ?_)
  have h := h I30 eI30
  refine j_aload_n G 0 0 dX1_copyFrom_106 rfl rfl ?_
  refine j_aload_n G 1 1 dX1_copyFrom_107 rfl rfl ?_
  refine j_get G hW 2 6 0 (.int (I30 a1 6)) k1 (by decide) rfl (by decide) rfl lay_X1 fl_X1_63 rfl rfl dX1_copyFrom_108 ?_
  refine j_put G hW 2 6 tyX1 (tyX1 6) tyX1_ok nmX1 k0 (by decide) rfl (by decide) rfl lay_X1 fl_X1_63 rfl rfl (tyX1_ok 6 (by decide)) rfl rfl dX1_copyFrom_111 ?_
  refine j_mI (fun I31 eI31 => ?_)
  have h := h I31 eI31
  refine j_aload_n G 0 0 dX1_copyFrom_114 rfl rfl ?_
  refine j_aload_n G 1 1 dX1_copyFrom_115 rfl rfl ?_
  refine j_get G hW 2 7 0 (.int (I31 a1 7)) k1 (by decide) rfl (by decide) rfl lay_X1 fl_X1_69 rfl rfl dX1_copyFrom_116 ?_
  refine j_put G hW 2 7 tyX1 (tyX1 7) tyX1_ok nmX1 k0 (by decide) rfl (by decide) rfl lay_X1 fl_X1_69 rfl rfl (tyX1_ok 7 (by decide)) rfl rfl dX1_copyFrom_119 ?_
  refine j_mI (fun I32 eI32 => ?_)
  have h := h I32 eI32
  refine j_aload_n G 0 0 dX1_copyFrom_122 rfl rfl ?_
  refine j_aload_n G 1 1 dX1_copyFrom_123 rfl rfl ?_
  refine j_get G hW 2 8 0 (.int (I32 a1 8)) k1 (by decide) rfl (by decide) rfl lay_X1 fl_X1_70 rfl rfl dX1_copyFrom_124 ?_
  refine j_put G hW 2 8 tyX1 (tyX1 8) tyX1_ok nmX1 k0 (by decide) rfl (by decide) rfl lay_X1 fl_X1_70 rfl rfl (tyX1_ok 8 (by decide)) rfl rfl dX1_copyFrom_127 ?_
  refine j_mI (fun I33 eI33 => ?_)
  have h := h I33 eI33
  refine j_aload_n G 0 0 dX1_copyFrom_130 rfl rfl ?_
  refine j_aload_n G 1 1 dX1_copyFrom_131 rfl rfl ?_
  refine j_get G hW 2 9 0 (.int (I33 a1 9)) k1 (by decide) rfl (by decide) rfl lay_X1 fl_X1_73 rfl rfl dX1_copyFrom_132 ?_
  refine j_put G hW 2 9 tyX1 (tyX1 9) tyX1_ok nmX1 k0 (by decide) rfl (by decide) rfl lay_X1 fl_X1_73 rfl rfl (tyX1_ok 9 (by decide)) rfl rfl dX1_copyFrom_135 ?_
  refine j_mI (fun I34 eI34 => ?_)
  have h := h I34 eI34
  refine j_aload_n G 0 0 dX1_copyFrom_138 rfl rfl ?_
  refine j_aload_n G 1 1 dX1_copyFrom_139 rfl rfl ?_
  refine j_get G hW 2 10 0 (.int (I34 a1 10)) k1 (by decide) rfl (by decide) rfl lay_X1 fl_X1_76 rfl rfl dX1_copyFrom_140 ?_
  refine j_put G hW 2 10 tyX1 (tyX1 10) tyX1_ok nmX1 k0 (by decide) rfl (by decide) rfl lay_X1 fl_X1_76 rfl rfl (tyX1_ok 10 (by decide)) rfl rfl dX1_copyFrom_143 ?_
  refine j_mI (fun I35 eI35 => ?_)
  have h := h I35 eI35
  refine j_aload_n G 0 0 dX1_copyFrom_146 rfl rfl ?_
  refine j_aload_n G 1 1 dX1_copyFrom_147 rfl rfl ?_
  refine j_get G hW 2 11 0 (.int (I35 a1 11)) k1 (by decide) rfl (by decide) rfl lay_X1 fl_X1_79 rfl rfl dX1_copyFrom_148 ?_
  refine j_put G hW 2 11 tyX1 (tyX1 11) tyX1_ok nmX1 k0 (by decide) rfl (by decide) rfl lay_X1 fl_X1_79 rfl rfl (tyX1_ok 11 (by decide)) rfl rfl dX1_copyFrom_151 ?_
  refine j_mI (fun I36 eI36 => ?_)
  have h := h I36 eI36
  refine j_aload_n G 0 0 dX1_copyFrom_154 rfl rfl ?_
  refine j_aload_n G 1 1 dX1_copyFrom_155 rfl rfl ?_
  refine j_get G hW 2 12 0 (.int (I36 a1 12)) k1 (by decide) rfl (by decide) rfl lay_X1 fl_X1_82 rfl rfl dX1_copyFrom_156 ?_
  refine j_put G hW 2 12 tyX1 (tyX1 12) tyX1_ok nmX1 k0 (by decide) rfl (by decide) rfl lay_X1 fl_X1_82 rfl rfl (tyX1_ok 12 (by decide)) rfl rfl dX1_copyFrom_159 ?_
  refine j_mI (fun I37 eI37 => ?_)
  have h := h I37 eI37
  refine j_aload_n G 0 0 dX1_copyFrom_162 rfl rfl ?_
  refine j_aload_n G 1 1 dX1_copyFrom_163 rfl rfl ?_
  refine j_get G hW 2 13 0 (.int (I37 a1 13)) k1 (by decide) rfl (by decide) rfl lay_X1 fl_X1_85 rfl rfl dX1_copyFrom_164 ?_
  refine j_put G hW 2 13 tyX1 (tyX1 13) tyX1_ok nmX1 k0 (by decide) rfl (by decide) rfl lay_X1 fl_X1_85 rfl rfl (tyX1_ok 13 (by decide)) rfl rfl dX1_copyFrom_167 ?_
  refine j_mI (fun I38 eI38 => ?_)
  have h := h I38 eI38
  refine j_aload_n G 0 0 dX1_copyFrom_170 rfl rfl ?_
  refine j_aload_n G 1 1 dX1_copyFrom_171 rfl rfl ?_
  refine j_get G hW 2 14 0 (.int (I38 a1 14)) k1 (by decide) rfl (by decide) rfl lay_X1 fl_X1_88 rfl rfl dX1_copyFrom_172 ?_
  refine j_put G hW 2 14 tyX1 (tyX1 14) tyX1_ok nmX1 k0 (by decide) rfl (by decide) rfl lay_X1 fl_X1_88 rfl rfl (tyX1_ok 14 (by decide)) rfl rfl dX1_copyFrom_175 ?_
  refine j_mI (fun I39 eI39 => ?_)
  have h := h I39 eI39
  exact j_retv G I39 dX1_copyFrom_178 h rfl
abbrev rm_X1_setRooms : Room := { frames := 1, cells := 0, slots := 0, locals := 21 }
def w_X1_setRooms_l7 (a0 : Nat) (x2 : Int32) (x3 : Int32)   (Q : MI → Prop) (rec : Int32 → MI → Prop) (x4 : Int32) (I : MI) : Prop :=
((x2 < x4 → Q I) ∧
(¬ x2 < x4 → (((6 : Int32) ≤ x4 → Q I) ∧
(¬ (6 : Int32) ≤ x4 → (vp_in x4 6 ∧
(∀ I7, I7 = ui I (a0 + 39 + 3 * ix x4) 4 x3 →
rec (x4 + 1) I7))))))
set_option maxHeartbeats 4000000 in
set_option maxRecDepth 100000 in
theorem m_X1_setRooms_l7 {K : Kx} {l : Launch} {m : MethodId} {H0 : Heap} {Q : MI → Prop} {w : HW} {J : MJ} {B : MR} (G : Gd l rm_X1_setRooms K m RX1 cX1_setRooms 5 H0 none (va_Qv (S := MI) Q (fun u t => HP K (u, J, B) t.heap) (AA K)) w) (hW : WFK K) (a0 : Nat) (x2 : Int32) (x3 : Int32) (x4 : Int32) (ka0 : (kG K a0).1 = 3) (I : MI)   (h : Lp2 (w_X1_setRooms_l7 a0 x2 x3 Q) x4 I) : Jg K m 5 H0 w 7 [(0, .ref a0), (2, .int x2), (3, .int x3), (4, .int x4)] [] (I, J, B) := by
  obtain ⟨n, h⟩ := h
  refine lpN2_ind (P := (fun (x4 : Int32) (I : MI) => Jg K m 5 H0 w 7 [(0, .ref a0), (2, .int x2), (3, .int x3), (4, .int x4)] [] (I, J, B))) (fun rec hrec x4 I h => ?_) n x4 I h
  unfold w_X1_setRooms_l7 at h
  refine j_iload G 3 dX1_setRooms_7 rfl ?_
  refine j_iload_n G 1 2 dX1_setRooms_9 rfl rfl ?_
  refine j_icmp_gt G 37 dX1_setRooms_10 (by decide) (fun c2 => ?_) (fun c2 => ?_)
  · have h := h.1 c2
    exact j_retv G I dX1_setRooms_37 h rfl
  · have h := h.2 c2
    refine j_iload G 3 dX1_setRooms_13 rfl ?_
    refine j_bipush G (6 : Int32) dX1_setRooms_15 (by decide) ?_
    refine j_icmp_ge G 37 dX1_setRooms_17 (by decide) (fun c3 => ?_) (fun c3 => ?_)
    · have h := h.1 c3
      exact j_retv G I dX1_setRooms_37 h rfl
    · have h := h.2 c3
      refine j_aload_n G 0 0 dX1_setRooms_20 rfl rfl ?_
      have kk4 : kG K (a0 + 37) = (25, 6) := wk_3_37 hW ka0
      refine j_get G hW 2 3 40 (.ref (a0 + 37)) ka0 (by decide) rfl (by decide) rfl lay_X1 fl_X1_27 rfl rfl dX1_setRooms_21 ?_
      refine j_iload G 3 dX1_setRooms_24 rfl ?_
      obtain ⟨b5, h⟩ := h
      have kk6 : (kG K (a0 + 39 + 3 * ix x4)).1 = 5 := wk_a25 (i := x4) hW kk4 b5 (ad2 rfl)
      refine j_aald25 G hW (i := x4) (b := a0 + 39 + 3 * ix x4) kk4 b5 (ad2 rfl) dX1_setRooms_26 ?_
      refine j_iload_n G 2 3 dX1_setRooms_27 rfl rfl ?_
      refine j_put G hW 4 4 tyX3 (tyX3 4) tyX3_ok nmX3 kk6 (by decide) rfl (by decide) rfl lay_X3 fl_X1_107 rfl rfl (tyX3_ok 4 (by decide)) rfl rfl dX1_setRooms_28 ?_
      refine j_mI (fun I7 eI7 => ?_)
      have h := h I7 eI7
      refine j_iinc G 3 (x4 + 1) [(4, .int (x4 + 1)), (0, .ref a0), (2, .int x2), (3, .int x3)] dX1_setRooms_31 rfl rfl (by decide) rfl ?_
      refine j_goto G 7 dX1_setRooms_34 (by decide) ?_
      exact Jg.sub [1, 2, 3, 0] rfl (hrec (x4 + 1) I7 h)
def w_X1_setRooms (a0 : Nat) (x1 : Int32) (x2 : Int32) (x3 : Int32) (I : MI) (Q : MI → Prop) : Prop :=
(∀ x4_1, x4_1 = (if (0 : Int32) < x1 then x1 else (0 : Int32)) →
Lp2 (w_X1_setRooms_l7 a0 x2 x3 Q) x4_1 I)
set_option maxHeartbeats 4000000 in
set_option maxRecDepth 100000 in
theorem c_X1_setRooms (K : Kx) (hW : WFK K) (l : Launch) (a0 : Nat) (x1 : Int32) (x2 : Int32) (x3 : Int32) (k0 : (kG K a0).1 = 3) (I : MI) (J : MJ) (B : MR) (Q : MI → Prop) (h : w_X1_setRooms a0 x1 x2 x3 I Q) : Con K l yX1_setRooms (wsT yX1_setRooms cX1_setRooms 5 none) rm_X1_setRooms [.ref a0, .int x1, .int x2, .int x3] (I, J, B) (va_Qv (S := MI) Q (fun u t => HP K (u, J, B) t.heap) (AA K)) := by
  refine Con.ofJ RX1 rfl (by decide) (Nat.le_of_ble_eq_true rfl) (fun m H0 w G => ?_)
  unfold w_X1_setRooms at h
  show Jg K m 5 H0 w 0 [(0, .ref a0), (1, .int x1), (2, .int x2), (3, .int x3)] [] (I, J, B)
  refine j_iconst G (0 : Int32) dX1_setRooms_0 (by decide) ?_
  refine j_iload_n G 1 1 dX1_setRooms_1 rfl rfl ?_
  refine j_mmax G ml_X1_101 st_J9_max_7cf53 in_J9 co_J9_max_7cf53 (by decide) (by decide) (Nat.le_of_ble_eq_true rfl) dX1_setRooms_2 ?_
  refine j_nm (fun x4_1 ex4_1 => ?_)
  have h := h x4_1 ex4_1
  refine j_istore G [(4, .int x4_1), (0, .ref a0), (1, .int x1), (2, .int x2), (3, .int x3)] dX1_setRooms_5 (by decide) rfl ?_
  refine Jg.sub [1, 3, 4, 0] rfl (m_X1_setRooms_l7 G hW a0 x2 x3 x4_1 k0 I h)
abbrev rm_X1_timeIfDone : Room := { frames := 0, cells := 0, slots := 0, locals := 0 }
def w_X1_timeIfDone (a0 : Nat) (I : MI) (Q : Int32 →  Prop) : Prop :=
((¬ (I a0 6) = (1 : Int32) → Q (-1 : Int32)) ∧
((I a0 6) = (1 : Int32) → Q (I a0 5)))
set_option maxHeartbeats 4000000 in
set_option maxRecDepth 100000 in
theorem c_X1_timeIfDone (K : Kx) (hW : WFK K) (l : Launch) (a0 : Nat) (k0 : (kG K a0).1 = 3) (I : MI) (J : MJ) (B : MR) (Q : Int32 →  Prop) (h : w_X1_timeIfDone a0 I Q) : Con K l yX1_timeIfDone (wsT yX1_timeIfDone cX1_timeIfDone 1 (some .int)) rm_X1_timeIfDone [.ref a0] (I, J, B) (va_Qi (S := Unit) (fun r _ => Q r) (fun u t => HP K (I, J, B) t.heap) (AA K)) := by
  refine Con.ofJ RX1 rfl (by decide) (Nat.le_of_ble_eq_true rfl) (fun m H0 w G => ?_)
  unfold w_X1_timeIfDone at h
  show Jg K m 1 H0 w 0 [(0, .ref a0)] [] (I, J, B)
  refine j_aload_n G 0 0 dX1_timeIfDone_0 rfl rfl ?_
  refine j_get G hW 2 6 0 (.int (I a0 6)) k0 (by decide) rfl (by decide) rfl lay_X1 fl_X1_63 rfl rfl dX1_timeIfDone_1 ?_
  refine j_iconst G (1 : Int32) dX1_timeIfDone_4 (by decide) ?_
  refine j_icmp_ne G 15 dX1_timeIfDone_5 (by decide) (fun c1 => ?_) (fun c1 => ?_)
  · have h := h.1 c1
    refine j_iconst G (-1 : Int32) dX1_timeIfDone_15 (by decide) ?_
    exact j_reti G () rfl dX1_timeIfDone_16 h rfl
  · have h := h.2 c1
    refine j_aload_n G 0 0 dX1_timeIfDone_8 rfl rfl ?_
    refine j_get G hW 2 5 0 (.int (I a0 5)) k0 (by decide) rfl (by decide) rfl lay_X1 fl_X1_59 rfl rfl dX1_timeIfDone_9 ?_
    refine j_goto G 16 dX1_timeIfDone_12 (by decide) ?_
    exact j_reti G () rfl dX1_timeIfDone_16 h rfl
abbrev rm_X1_writeOne : Room := { frames := 1, cells := 0, slots := 0, locals := 21 }
def w_X1_writeOne_p52 (a0 : Nat) (x1 : Int32)  (I : MI)  (Q : MI → Prop) : Prop :=
(w_X3_take (a0 + 42) I (fun r9 I10 =>
(vp_in r9 32 ∧
(∀ I12, I12 = ui I10 (a0 + 36) (ix r9) x1 →
(∀ I13, I13 = ui I12 a0 12 ((I12 a0 12) + (1 : Int32)) →
(∀ I14, I14 = ui I13 a0 15 (1 : Int32) →
Q I14))))))
set_option maxHeartbeats 4000000 in
set_option maxRecDepth 100000 in
theorem m_X1_writeOne_p52 {K : Kx} {l : Launch} {m : MethodId} {H0 : Heap} {Q : MI → Prop} {w : HW} {J : MJ} {B : MR} (G : Gd l rm_X1_writeOne K m RX1 cX1_writeOne 2 H0 none (va_Qv (S := MI) Q (fun u t => HP K (u, J, B) t.heap) (AA K)) w) (hW : WFK K) (a0 : Nat) (x1 : Int32)  (ka0 : (kG K a0).1 = 3)  (I : MI)   (h : w_X1_writeOne_p52 a0 x1 I Q) : Jg K m 2 H0 w 52 [(0, .ref a0), (1, .int x1)] [] (I, J, B) := by
  unfold w_X1_writeOne_p52 at h
  refine j_aload_n G 0 0 dX1_writeOne_52 rfl rfl ?_
  have kk6 : kG K (a0 + 36) = (20, 32) := wk_3_36 hW ka0
  refine j_get G hW 2 2 39 (.ref (a0 + 36)) ka0 (by decide) rfl (by decide) rfl lay_X1 fl_X1_22 rfl rfl dX1_writeOne_53 ?_
  refine j_aload_n G 0 0 dX1_writeOne_56 rfl rfl ?_
  have kk7 : kG K (a0 + 37) = (25, 6) := wk_3_37 hW ka0
  refine j_get G hW 2 3 40 (.ref (a0 + 37)) ka0 (by decide) rfl (by decide) rfl lay_X1 fl_X1_27 rfl rfl dX1_writeOne_57 ?_
  refine j_iconst G (1 : Int32) dX1_writeOne_60 (by decide) ?_
  have kk8 : (kG K (a0 + 42)).1 = 5 := wk_a25 (i := (1 : Int32)) hW kk7 (vpc rfl) (ad1 (j := 1) (by decide) rfl)
  refine j_aald25 G hW (i := (1 : Int32)) (b := a0 + 42) kk7 (vpc rfl) (ad1 (j := 1) (by decide) rfl) dX1_writeOne_61 ?_
  refine j_ci (rn_V G hW (ci := 4) (n := 0) (As := []) (rest := [.ref (a0 + 36)]) (c_X3_take K hW l (a0 + 42) kk8 I J B _ h) kk8 (by decide) rfl ml_X1_157 im_X3_take se_X3_take in_X3 co_X3_take rfl (by decide +kernel) rfl rfl (by decide) (by decide) rfl rfl (Nat.le_of_ble_eq_true rfl) dX1_writeOne_62) (fun r9 I10 h => ?_)
  refine j_iload_n G 1 1 dX1_writeOne_65 rfl rfl ?_
  obtain ⟨b11, h⟩ := h
  refine j_iast G hW kk6 b11 dX1_writeOne_66 ?_
  refine j_mI (fun I12 eI12 => ?_)
  have h := h I12 eI12
  refine j_aload_n G 0 0 dX1_writeOne_67 rfl rfl ?_
  refine j_dup G rfl dX1_writeOne_68 ?_
  refine j_get G hW 2 12 0 (.int (I12 a0 12)) ka0 (by decide) rfl (by decide) rfl lay_X1 fl_X1_82 rfl rfl dX1_writeOne_69 ?_
  refine j_iconst G (1 : Int32) dX1_writeOne_72 (by decide) ?_
  refine j_iadd G dX1_writeOne_73 ?_
  refine j_put G hW 2 12 tyX1 (tyX1 12) tyX1_ok nmX1 ka0 (by decide) rfl (by decide) rfl lay_X1 fl_X1_82 rfl rfl (tyX1_ok 12 (by decide)) rfl rfl dX1_writeOne_74 ?_
  refine j_mI (fun I13 eI13 => ?_)
  have h := h I13 eI13
  refine j_aload_n G 0 0 dX1_writeOne_77 rfl rfl ?_
  refine j_iconst G (1 : Int32) dX1_writeOne_78 (by decide) ?_
  refine j_put G hW 2 15 tyX1 (tyX1 15) tyX1_ok nmX1 ka0 (by decide) rfl (by decide) rfl lay_X1 fl_X1_113 rfl rfl (tyX1_ok 15 (by decide)) (by decide) (by decide) dX1_writeOne_79 ?_
  refine j_mI (fun I14 eI14 => ?_)
  have h := h I14 eI14
  exact j_retv G I14 dX1_writeOne_82 h rfl
def w_X1_writeOne (a0 : Nat) (I : MI) (Q : MI → Prop) : Prop :=
((¬ (I (a0 + 42) 3) = 0 → (w_X3_markAt (a0 + 42) (0 : Int32) I (fun r4 =>
((¬ r4 = (-1 : Int32) → w_X1_writeOne_p52 a0 r4 I Q) ∧
(r4 = (-1 : Int32) → ((¬ (I (a0 + 45) 3) = 0 → (w_X3_take (a0 + 45) I (fun r17 I18 =>
w_X1_writeOne_p52 a0 r17 I18 Q))) ∧
((I (a0 + 45) 3) = 0 → Q I))))))) ∧
((I (a0 + 42) 3) = 0 → Q I))
set_option maxHeartbeats 4000000 in
set_option maxRecDepth 100000 in
theorem c_X1_writeOne (K : Kx) (hW : WFK K) (l : Launch) (a0 : Nat) (k0 : (kG K a0).1 = 3) (I : MI) (J : MJ) (B : MR) (Q : MI → Prop) (h : w_X1_writeOne a0 I Q) : Con K l yX1_writeOne (wsT yX1_writeOne cX1_writeOne 2 none) rm_X1_writeOne [.ref a0] (I, J, B) (va_Qv (S := MI) Q (fun u t => HP K (u, J, B) t.heap) (AA K)) := by
  refine Con.ofJ RX1 rfl (by decide) (Nat.le_of_ble_eq_true rfl) (fun m H0 w G => ?_)
  unfold w_X1_writeOne at h
  show Jg K m 2 H0 w 0 [(0, .ref a0)] [] (I, J, B)
  refine j_aload_n G 0 0 dX1_writeOne_0 rfl rfl ?_
  have kk1 : kG K (a0 + 37) = (25, 6) := wk_3_37 hW k0
  refine j_get G hW 2 3 40 (.ref (a0 + 37)) k0 (by decide) rfl (by decide) rfl lay_X1 fl_X1_27 rfl rfl dX1_writeOne_1 ?_
  refine j_iconst G (1 : Int32) dX1_writeOne_4 (by decide) ?_
  have kk2 : (kG K (a0 + 42)).1 = 5 := wk_a25 (i := (1 : Int32)) hW kk1 (vpc rfl) (ad1 (j := 1) (by decide) rfl)
  refine j_aald25 G hW (i := (1 : Int32)) (b := a0 + 42) kk1 (vpc rfl) (ad1 (j := 1) (by decide) rfl) dX1_writeOne_5 ?_
  refine j_get G hW 4 3 0 (.int (I (a0 + 42) 3)) kk2 (by decide) rfl (by decide) rfl lay_X3 fl_X1_142 rfl rfl dX1_writeOne_6 ?_
  refine j_if_ne G 13 dX1_writeOne_9 (by decide) (fun c3 => ?_) (fun c3 => ?_)
  · have h := h.1 c3
    refine j_aload_n G 0 0 dX1_writeOne_13 rfl rfl ?_
    refine j_get G hW 2 3 40 (.ref (a0 + 37)) k0 (by decide) rfl (by decide) rfl lay_X1 fl_X1_27 rfl rfl dX1_writeOne_14 ?_
    refine j_iconst G (1 : Int32) dX1_writeOne_17 (by decide) ?_
    refine j_aald25 G hW (i := (1 : Int32)) (b := a0 + 42) kk1 (vpc rfl) (ad1 (j := 1) (by decide) rfl) dX1_writeOne_18 ?_
    refine j_iconst G (0 : Int32) dX1_writeOne_19 (by decide) ?_
    refine j_ci (rn_V G hW (ci := 4) (n := 1) (As := [.int (0 : Int32)]) (rest := []) (c_X3_markAt K hW l (a0 + 42) (0 : Int32) kk2 I J B _ h) kk2 (by decide) rfl ml_X1_153 im_X3_markAt se_X3_markAt in_X3 co_X3_markAt rfl (by decide +kernel) rfl rfl (by decide) (by decide) rfl rfl (Nat.le_of_ble_eq_true rfl) dX1_writeOne_20) (fun r4 _ h => ?_)
    refine j_istore_n G 1 [(1, .int r4), (0, .ref a0)] dX1_writeOne_23 rfl (by decide) rfl ?_
    refine j_iload_n G 0 1 dX1_writeOne_24 rfl rfl ?_
    refine j_iconst G (-1 : Int32) dX1_writeOne_25 (by decide) ?_
    refine j_icmp_ne G 52 dX1_writeOne_26 (by decide) (fun c5 => ?_) (fun c5 => ?_)
    · have h := h.1 c5
      exact Jg.sub [1, 0] rfl (m_X1_writeOne_p52 G hW a0 r4 k0 I h)
    · have h := h.2 c5
      refine j_aload_n G 1 0 dX1_writeOne_29 rfl rfl ?_
      refine j_get G hW 2 3 40 (.ref (a0 + 37)) k0 (by decide) rfl (by decide) rfl lay_X1 fl_X1_27 rfl rfl dX1_writeOne_30 ?_
      refine j_iconst G (2 : Int32) dX1_writeOne_33 (by decide) ?_
      have kk15 : (kG K (a0 + 45)).1 = 5 := wk_a25 (i := (2 : Int32)) hW kk1 (vpc rfl) (ad1 (j := 2) (by decide) rfl)
      refine j_aald25 G hW (i := (2 : Int32)) (b := a0 + 45) kk1 (vpc rfl) (ad1 (j := 2) (by decide) rfl) dX1_writeOne_34 ?_
      refine j_get G hW 4 3 0 (.int (I (a0 + 45) 3)) kk15 (by decide) rfl (by decide) rfl lay_X3 fl_X1_142 rfl rfl dX1_writeOne_35 ?_
      refine j_if_ne G 42 dX1_writeOne_38 (by decide) (fun c16 => ?_) (fun c16 => ?_)
      · have h := h.1 c16
        refine j_aload_n G 1 0 dX1_writeOne_42 rfl rfl ?_
        refine j_get G hW 2 3 40 (.ref (a0 + 37)) k0 (by decide) rfl (by decide) rfl lay_X1 fl_X1_27 rfl rfl dX1_writeOne_43 ?_
        refine j_iconst G (2 : Int32) dX1_writeOne_46 (by decide) ?_
        refine j_aald25 G hW (i := (2 : Int32)) (b := a0 + 45) kk1 (vpc rfl) (ad1 (j := 2) (by decide) rfl) dX1_writeOne_47 ?_
        refine j_ci (rn_V G hW (ci := 4) (n := 0) (As := []) (rest := []) (c_X3_take K hW l (a0 + 45) kk15 I J B _ h) kk15 (by decide) rfl ml_X1_157 im_X3_take se_X3_take in_X3 co_X3_take rfl (by decide +kernel) rfl rfl (by decide) (by decide) rfl rfl (Nat.le_of_ble_eq_true rfl) dX1_writeOne_48) (fun r17 I18 h => ?_)
        refine j_istore_n G 1 [(1, .int r17), (0, .ref a0)] dX1_writeOne_51 rfl (by decide) rfl ?_
        exact Jg.sub [1, 0] rfl (m_X1_writeOne_p52 G hW a0 r17 k0 I18 h)
      · have h := h.2 c16
        exact j_retv G I dX1_writeOne_41 h rfl
  · have h := h.2 c3
    exact j_retv G I dX1_writeOne_12 h rfl
abbrev rm_X1_fetchWaitsFor : Room := { frames := 1, cells := 0, slots := 0, locals := 22 }
def w_X1_fetchWaitsFor (a0 : Nat) (a1 : Nat) (I : MI) (Q : Int32 → MI → Prop) : Prop :=
((¬ (I a0 13) = (-1 : Int32) → (((I a0 7) ≤ ((I a0 5) - (I a0 13)) → Q (0 : Int32) I) ∧
(¬ (I a0 7) ≤ ((I a0 5) - (I a0 13)) → Q (7 : Int32) I))) ∧
((I a0 13) = (-1 : Int32) → (w_X0_cellBy a1 (a0 + 35) I (fun r4 =>
(w_X3_holds (a0 + 42) r4 I (fun r7 =>
((r7 = 0 → (∀ I9, I9 = ui I a0 13 (I a0 5) →
(vp_in r4 32 ∧
(∀ I12, I12 = ui I9 a0 14 (I9 (a0 + 36) (ix r4)) →
(((I12 a0 7) ≤ ((I12 a0 5) - (I12 a0 13)) → Q (0 : Int32) I12) ∧
(¬ (I12 a0 7) ≤ ((I12 a0 5) - (I12 a0 13)) → Q (7 : Int32) I12)))))) ∧
(¬ r7 = 0 → Q (6 : Int32) I))))))))
set_option maxHeartbeats 4000000 in
set_option maxRecDepth 100000 in
theorem c_X1_fetchWaitsFor (K : Kx) (hW : WFK K) (l : Launch) (a0 : Nat) (a1 : Nat) (k0 : (kG K a0).1 = 3) (k1 : (kG K a1).1 = 2) (I : MI) (J : MJ) (B : MR) (Q : Int32 → MI → Prop) (h : w_X1_fetchWaitsFor a0 a1 I Q) : Con K l yX1_fetchWaitsFor (wsT yX1_fetchWaitsFor cX1_fetchWaitsFor 3 (some .int)) rm_X1_fetchWaitsFor [.ref a0, .ref a1] (I, J, B) (va_Qi (S := MI) Q (fun u t => HP K (u, J, B) t.heap) (AA K)) := by
  refine Con.ofJ RX1 rfl (by decide) (Nat.le_of_ble_eq_true rfl) (fun m H0 w G => ?_)
  unfold w_X1_fetchWaitsFor at h
  show Jg K m 3 H0 w 0 [(0, .ref a0), (1, .ref a1)] [] (I, J, B)
  refine j_aload_n G 0 0 dX1_fetchWaitsFor_0 rfl rfl ?_
  refine j_get G hW 2 13 0 (.int (I a0 13)) k0 (by decide) rfl (by decide) rfl lay_X1 fl_X1_85 rfl rfl dX1_fetchWaitsFor_1 ?_
  refine j_iconst G (-1 : Int32) dX1_fetchWaitsFor_4 (by decide) ?_
  refine j_icmp_ne G 51 dX1_fetchWaitsFor_5 (by decide) (fun c1 => ?_) (fun c1 => ?_)
  · have h := h.1 c1
    refine j_aload_n G 0 0 dX1_fetchWaitsFor_51 rfl rfl ?_
    refine j_get G hW 2 5 0 (.int (I a0 5)) k0 (by decide) rfl (by decide) rfl lay_X1 fl_X1_59 rfl rfl dX1_fetchWaitsFor_52 ?_
    refine j_aload_n G 0 0 dX1_fetchWaitsFor_55 rfl rfl ?_
    refine j_get G hW 2 13 0 (.int (I a0 13)) k0 (by decide) rfl (by decide) rfl lay_X1 fl_X1_85 rfl rfl dX1_fetchWaitsFor_56 ?_
    refine j_isub G dX1_fetchWaitsFor_59 ?_
    refine j_aload_n G 0 0 dX1_fetchWaitsFor_60 rfl rfl ?_
    refine j_get G hW 2 7 0 (.int (I a0 7)) k0 (by decide) rfl (by decide) rfl lay_X1 fl_X1_69 rfl rfl dX1_fetchWaitsFor_61 ?_
    refine j_icmp_ge G 72 dX1_fetchWaitsFor_64 (by decide) (fun c2 => ?_) (fun c2 => ?_)
    · have h := h.1 c2
      refine j_iconst G (0 : Int32) dX1_fetchWaitsFor_72 (by decide) ?_
      exact j_reti G I rfl dX1_fetchWaitsFor_73 h rfl
    · have h := h.2 c2
      refine j_bipush G (7 : Int32) dX1_fetchWaitsFor_67 (by decide) ?_
      refine j_goto G 73 dX1_fetchWaitsFor_69 (by decide) ?_
      exact j_reti G I rfl dX1_fetchWaitsFor_73 h rfl
  · have h := h.2 c1
    refine j_aload_n G 1 1 dX1_fetchWaitsFor_8 rfl rfl ?_
    refine j_aload_n G 0 0 dX1_fetchWaitsFor_9 rfl rfl ?_
    have kk3 : kG K (a0 + 35) = (20, 8) := wk_3_35 hW k0
    refine j_get G hW 2 1 38 (.ref (a0 + 35)) k0 (by decide) rfl (by decide) rfl lay_X1 fl_X1_18 rfl rfl dX1_fetchWaitsFor_10 ?_
    refine j_ci (rn_V G hW (ci := 1) (n := 1) (As := [.ref (a0 + 35)]) (rest := []) (c_X0_cellBy K hW l a1 (a0 + 35) k1 kk3 I J B _ h) k1 (by decide) rfl ml_X1_188 im_X0_cellBy se_X0_cellBy in_X0 co_X0_cellBy rfl (by decide +kernel) rfl rfl (by decide) (by decide) rfl rfl (Nat.le_of_ble_eq_true rfl) dX1_fetchWaitsFor_13) (fun r4 _ h => ?_)
    refine j_istore_n G 2 [(2, .int r4), (0, .ref a0), (1, .ref a1)] dX1_fetchWaitsFor_16 rfl (by decide) rfl ?_
    refine j_aload_n G 1 0 dX1_fetchWaitsFor_17 rfl rfl ?_
    have kk5 : kG K (a0 + 37) = (25, 6) := wk_3_37 hW k0
    refine j_get G hW 2 3 40 (.ref (a0 + 37)) k0 (by decide) rfl (by decide) rfl lay_X1 fl_X1_27 rfl rfl dX1_fetchWaitsFor_18 ?_
    refine j_iconst G (1 : Int32) dX1_fetchWaitsFor_21 (by decide) ?_
    have kk6 : (kG K (a0 + 42)).1 = 5 := wk_a25 (i := (1 : Int32)) hW kk5 (vpc rfl) (ad1 (j := 1) (by decide) rfl)
    refine j_aald25 G hW (i := (1 : Int32)) (b := a0 + 42) kk5 (vpc rfl) (ad1 (j := 1) (by decide) rfl) dX1_fetchWaitsFor_22 ?_
    refine j_iload_n G 0 2 dX1_fetchWaitsFor_23 rfl rfl ?_
    refine j_ci (rn_V G hW (ci := 4) (n := 1) (As := [.int r4]) (rest := []) (c_X3_holds K hW l (a0 + 42) r4 kk6 I J B _ h) kk6 (by decide) rfl ml_X1_194 im_X3_holds se_X3_holds in_X3 co_X3_holds rfl (by decide +kernel) rfl rfl (by decide) (by decide) rfl rfl (Nat.le_of_ble_eq_true rfl) dX1_fetchWaitsFor_24) (fun r7 _ h => ?_)
    refine j_if_eq G 33 dX1_fetchWaitsFor_27 (by decide) (fun c8 => ?_) (fun c8 => ?_)
    · have h := h.1 c8
      refine j_aload_n G 1 0 dX1_fetchWaitsFor_33 rfl rfl ?_
      refine j_aload_n G 1 0 dX1_fetchWaitsFor_34 rfl rfl ?_
      refine j_get G hW 2 5 0 (.int (I a0 5)) k0 (by decide) rfl (by decide) rfl lay_X1 fl_X1_59 rfl rfl dX1_fetchWaitsFor_35 ?_
      refine j_put G hW 2 13 tyX1 (tyX1 13) tyX1_ok nmX1 k0 (by decide) rfl (by decide) rfl lay_X1 fl_X1_85 rfl rfl (tyX1_ok 13 (by decide)) rfl rfl dX1_fetchWaitsFor_38 ?_
      refine j_mI (fun I9 eI9 => ?_)
      have h := h I9 eI9
      refine j_aload_n G 1 0 dX1_fetchWaitsFor_41 rfl rfl ?_
      refine j_aload_n G 1 0 dX1_fetchWaitsFor_42 rfl rfl ?_
      have kk10 : kG K (a0 + 36) = (20, 32) := wk_3_36 hW k0
      refine j_get G hW 2 2 39 (.ref (a0 + 36)) k0 (by decide) rfl (by decide) rfl lay_X1 fl_X1_22 rfl rfl dX1_fetchWaitsFor_43 ?_
      refine j_iload_n G 0 2 dX1_fetchWaitsFor_46 rfl rfl ?_
      obtain ⟨b11, h⟩ := h
      refine j_iald G hW kk10 b11 dX1_fetchWaitsFor_47 ?_
      refine j_put G hW 2 14 tyX1 (tyX1 14) tyX1_ok nmX1 k0 (by decide) rfl (by decide) rfl lay_X1 fl_X1_88 rfl rfl (tyX1_ok 14 (by decide)) rfl rfl dX1_fetchWaitsFor_48 ?_
      refine j_mI (fun I12 eI12 => ?_)
      have h := h I12 eI12
      refine j_aload_n G 1 0 dX1_fetchWaitsFor_51 rfl rfl ?_
      refine j_get G hW 2 5 0 (.int (I12 a0 5)) k0 (by decide) rfl (by decide) rfl lay_X1 fl_X1_59 rfl rfl dX1_fetchWaitsFor_52 ?_
      refine j_aload_n G 1 0 dX1_fetchWaitsFor_55 rfl rfl ?_
      refine j_get G hW 2 13 0 (.int (I12 a0 13)) k0 (by decide) rfl (by decide) rfl lay_X1 fl_X1_85 rfl rfl dX1_fetchWaitsFor_56 ?_
      refine j_isub G dX1_fetchWaitsFor_59 ?_
      refine j_aload_n G 1 0 dX1_fetchWaitsFor_60 rfl rfl ?_
      refine j_get G hW 2 7 0 (.int (I12 a0 7)) k0 (by decide) rfl (by decide) rfl lay_X1 fl_X1_69 rfl rfl dX1_fetchWaitsFor_61 ?_
      refine j_icmp_ge G 72 dX1_fetchWaitsFor_64 (by decide) (fun c13 => ?_) (fun c13 => ?_)
      · have h := h.1 c13
        refine j_iconst G (0 : Int32) dX1_fetchWaitsFor_72 (by decide) ?_
        exact j_reti G I12 rfl dX1_fetchWaitsFor_73 h rfl
      · have h := h.2 c13
        refine j_bipush G (7 : Int32) dX1_fetchWaitsFor_67 (by decide) ?_
        refine j_goto G 73 dX1_fetchWaitsFor_69 (by decide) ?_
        exact j_reti G I12 rfl dX1_fetchWaitsFor_73 h rfl
    · have h := h.2 c8
      refine j_bipush G (6 : Int32) dX1_fetchWaitsFor_30 (by decide) ?_
      exact j_reti G I rfl dX1_fetchWaitsFor_32 h rfl
abbrev rm_X1_runnerWaitsFor : Room := { frames := 2, cells := 0, slots := 0, locals := 44 }
def w_X1_runnerWaitsFor (a0 : Nat) (x1 : Int32) (a2 : Nat) (I : MI) (Q : Int32 → MI → Prop) : Prop :=
((x1 = (9 : Int32) → (w_X3_isFull (a0 + 48) I (fun r3 =>
((r3 = 0 → Q (0 : Int32) I) ∧
(¬ r3 = 0 → Q (3 : Int32) I))))) ∧
(x1 = (10 : Int32) → (w_X1_fetchWaitsFor a0 a2 I (fun r5 I6 =>
Q r5 I6))) ∧
(x1 = (11 : Int32) → (w_X0_cellBy a2 (a0 + 35) I (fun r10 =>
(w_X3_holds (a0 + 42) r10 I (fun r11 =>
((r11 = 0 → (w_X3_isFull (a0 + 39) I (fun r14 =>
((r14 = 0 → Q (0 : Int32) I) ∧
(¬ r14 = 0 → Q (1 : Int32) I))))) ∧
(¬ r11 = 0 → Q (6 : Int32) I))))))) ∧
(x1 = (13 : Int32) ∨ x1 = (14 : Int32) → (w_X3_isFull (a0 + 42) I (fun r18 =>
((r18 = 0 → Q (0 : Int32) I) ∧
(¬ r18 = 0 → Q (2 : Int32) I))))) ∧
(x1 = (16 : Int32) → (w_X3_isFull (a0 + 51) I (fun r22 =>
((r22 = 0 → Q (0 : Int32) I) ∧
(¬ r22 = 0 → Q (4 : Int32) I))))) ∧
(x1 = (18 : Int32) → ((¬ (I (a0 + 54) 3) = 0 → Q (0 : Int32) I) ∧
((I (a0 + 54) 3) = 0 → Q (5 : Int32) I))) ∧
(¬ x1 = (9 : Int32) → ¬ x1 = (10 : Int32) → ¬ x1 = (11 : Int32) → ¬ x1 = (13 : Int32) → ¬ x1 = (14 : Int32) → ¬ x1 = (16 : Int32) → ¬ x1 = (18 : Int32) → Q (0 : Int32) I))
set_option maxHeartbeats 4000000 in
set_option maxRecDepth 100000 in
theorem c_X1_runnerWaitsFor (K : Kx) (hW : WFK K) (l : Launch) (a0 : Nat) (x1 : Int32) (a2 : Nat) (k0 : (kG K a0).1 = 3) (k2 : (kG K a2).1 = 2) (I : MI) (J : MJ) (B : MR) (Q : Int32 → MI → Prop) (h : w_X1_runnerWaitsFor a0 x1 a2 I Q) : Con K l yX1_runnerWaitsFor (wsT yX1_runnerWaitsFor cX1_runnerWaitsFor 3 (some .int)) rm_X1_runnerWaitsFor [.ref a0, .int x1, .ref a2] (I, J, B) (va_Qi (S := MI) Q (fun u t => HP K (u, J, B) t.heap) (AA K)) := by
  refine Con.ofJ RX1 rfl (by decide) (Nat.le_of_ble_eq_true rfl) (fun m H0 w G => ?_)
  unfold w_X1_runnerWaitsFor at h
  show Jg K m 3 H0 w 0 [(0, .ref a0), (1, .int x1), (2, .ref a2)] [] (I, J, B)
  refine j_iload_n G 1 1 dX1_runnerWaitsFor_0 rfl rfl ?_
  by_cases c27 : x1 = (9 : Int32)
  · have h := h.1 (c27)
    refine j_tableIn G 121 dX1_runnerWaitsFor_1 (by rw [c27]; decide) (by rw [c27]; decide) (by rw [c27] <;> rfl) (by decide) ?_
    refine j_aload_n G 0 0 dX1_runnerWaitsFor_121 rfl rfl ?_
    have kk1 : kG K (a0 + 37) = (25, 6) := wk_3_37 hW k0
    refine j_get G hW 2 3 40 (.ref (a0 + 37)) k0 (by decide) rfl (by decide) rfl lay_X1 fl_X1_27 rfl rfl dX1_runnerWaitsFor_122 ?_
    refine j_iconst G (3 : Int32) dX1_runnerWaitsFor_125 (by decide) ?_
    have kk2 : (kG K (a0 + 48)).1 = 5 := wk_a25 (i := (3 : Int32)) hW kk1 (vpc rfl) (ad1 (j := 3) (by decide) rfl)
    refine j_aald25 G hW (i := (3 : Int32)) (b := a0 + 48) kk1 (vpc rfl) (ad1 (j := 3) (by decide) rfl) dX1_runnerWaitsFor_126 ?_
    refine j_ci (rn_V G hW (ci := 4) (n := 0) (As := []) (rest := []) (c_X3_isFull K hW l (a0 + 48) kk2 I J B _ h) kk2 (by decide) rfl ml_X1_197 im_X3_isFull se_X3_isFull in_X3 co_X3_isFull rfl (by decide +kernel) rfl rfl (by decide) (by decide) rfl rfl (Nat.le_of_ble_eq_true rfl) dX1_runnerWaitsFor_127) (fun r3 _ h => ?_)
    refine j_if_eq G 137 dX1_runnerWaitsFor_130 (by decide) (fun c4 => ?_) (fun c4 => ?_)
    · have h := h.1 c4
      refine j_iconst G (0 : Int32) dX1_runnerWaitsFor_137 (by decide) ?_
      exact j_reti G I rfl dX1_runnerWaitsFor_138 h rfl
    · have h := h.2 c4
      refine j_iconst G (3 : Int32) dX1_runnerWaitsFor_133 (by decide) ?_
      refine j_goto G 138 dX1_runnerWaitsFor_134 (by decide) ?_
      exact j_reti G I rfl dX1_runnerWaitsFor_138 h rfl
  · skip
    by_cases c28 : x1 = (10 : Int32)
    · have h := h.2.1 (c28)
      refine j_tableIn G 97 dX1_runnerWaitsFor_1 (by rw [c28]; decide) (by rw [c28]; decide) (by rw [c28] <;> rfl) (by decide) ?_
      refine j_aload_n G 0 0 dX1_runnerWaitsFor_97 rfl rfl ?_
      refine j_aload_n G 2 2 dX1_runnerWaitsFor_98 rfl rfl ?_
      refine j_ci (rn_V G hW (ci := 2) (n := 1) (As := [.ref a2]) (rest := []) (c_X1_fetchWaitsFor K hW l a0 a2 k0 k2 I J B _ h) k0 (by decide) rfl ml_X1_200 im_X1_fetchWaitsFor se_X1_fetchWaitsFor in_X1 co_X1_fetchWaitsFor rfl (by decide +kernel) rfl rfl (by decide) (by decide) rfl rfl (Nat.le_of_ble_eq_true rfl) dX1_runnerWaitsFor_99) (fun r5 I6 h => ?_)
      exact j_reti G I6 rfl dX1_runnerWaitsFor_102 h rfl
    · skip
      by_cases c29 : x1 = (11 : Int32)
      · have h := h.2.2.1 (c29)
        refine j_tableIn G 56 dX1_runnerWaitsFor_1 (by rw [c29]; decide) (by rw [c29]; decide) (by rw [c29] <;> rfl) (by decide) ?_
        refine j_aload_n G 0 0 dX1_runnerWaitsFor_56 rfl rfl ?_
        have kk7 : kG K (a0 + 37) = (25, 6) := wk_3_37 hW k0
        refine j_get G hW 2 3 40 (.ref (a0 + 37)) k0 (by decide) rfl (by decide) rfl lay_X1 fl_X1_27 rfl rfl dX1_runnerWaitsFor_57 ?_
        refine j_iconst G (1 : Int32) dX1_runnerWaitsFor_60 (by decide) ?_
        have kk8 : (kG K (a0 + 42)).1 = 5 := wk_a25 (i := (1 : Int32)) hW kk7 (vpc rfl) (ad1 (j := 1) (by decide) rfl)
        refine j_aald25 G hW (i := (1 : Int32)) (b := a0 + 42) kk7 (vpc rfl) (ad1 (j := 1) (by decide) rfl) dX1_runnerWaitsFor_61 ?_
        refine j_aload_n G 2 2 dX1_runnerWaitsFor_62 rfl rfl ?_
        refine j_aload_n G 0 0 dX1_runnerWaitsFor_63 rfl rfl ?_
        have kk9 : kG K (a0 + 35) = (20, 8) := wk_3_35 hW k0
        refine j_get G hW 2 1 38 (.ref (a0 + 35)) k0 (by decide) rfl (by decide) rfl lay_X1 fl_X1_18 rfl rfl dX1_runnerWaitsFor_64 ?_
        refine j_ci (rn_V G hW (ci := 1) (n := 1) (As := [.ref (a0 + 35)]) (rest := [.ref (a0 + 42)]) (c_X0_cellBy K hW l a2 (a0 + 35) k2 kk9 I J B _ h) k2 (by decide) rfl ml_X1_188 im_X0_cellBy se_X0_cellBy in_X0 co_X0_cellBy rfl (by decide +kernel) rfl rfl (by decide) (by decide) rfl rfl (Nat.le_of_ble_eq_true rfl) dX1_runnerWaitsFor_67) (fun r10 _ h => ?_)
        refine j_ci (rn_V G hW (ci := 4) (n := 1) (As := [.int r10]) (rest := []) (c_X3_holds K hW l (a0 + 42) r10 kk8 I J B _ h) kk8 (by decide) rfl ml_X1_194 im_X3_holds se_X3_holds in_X3 co_X3_holds rfl (by decide +kernel) rfl rfl (by decide) (by decide) rfl rfl (Nat.le_of_ble_eq_true rfl) dX1_runnerWaitsFor_70) (fun r11 _ h => ?_)
        refine j_if_eq G 79 dX1_runnerWaitsFor_73 (by decide) (fun c12 => ?_) (fun c12 => ?_)
        · have h := h.1 c12
          refine j_aload_n G 0 0 dX1_runnerWaitsFor_79 rfl rfl ?_
          refine j_get G hW 2 3 40 (.ref (a0 + 37)) k0 (by decide) rfl (by decide) rfl lay_X1 fl_X1_27 rfl rfl dX1_runnerWaitsFor_80 ?_
          refine j_iconst G (0 : Int32) dX1_runnerWaitsFor_83 (by decide) ?_
          have kk13 : (kG K (a0 + 39)).1 = 5 := wk_a25 (i := (0 : Int32)) hW kk7 (vpc rfl) (ad1 (j := 0) (by decide) rfl)
          refine j_aald25 G hW (i := (0 : Int32)) (b := a0 + 39) kk7 (vpc rfl) (ad1 (j := 0) (by decide) rfl) dX1_runnerWaitsFor_84 ?_
          refine j_ci (rn_V G hW (ci := 4) (n := 0) (As := []) (rest := []) (c_X3_isFull K hW l (a0 + 39) kk13 I J B _ h) kk13 (by decide) rfl ml_X1_197 im_X3_isFull se_X3_isFull in_X3 co_X3_isFull rfl (by decide +kernel) rfl rfl (by decide) (by decide) rfl rfl (Nat.le_of_ble_eq_true rfl) dX1_runnerWaitsFor_85) (fun r14 _ h => ?_)
          refine j_if_eq G 95 dX1_runnerWaitsFor_88 (by decide) (fun c15 => ?_) (fun c15 => ?_)
          · have h := h.1 c15
            refine j_iconst G (0 : Int32) dX1_runnerWaitsFor_95 (by decide) ?_
            exact j_reti G I rfl dX1_runnerWaitsFor_96 h rfl
          · have h := h.2 c15
            refine j_iconst G (1 : Int32) dX1_runnerWaitsFor_91 (by decide) ?_
            refine j_goto G 96 dX1_runnerWaitsFor_92 (by decide) ?_
            exact j_reti G I rfl dX1_runnerWaitsFor_96 h rfl
        · have h := h.2 c12
          refine j_bipush G (6 : Int32) dX1_runnerWaitsFor_76 (by decide) ?_
          exact j_reti G I rfl dX1_runnerWaitsFor_78 h rfl
      · skip
        by_cases c30 : x1 = (13 : Int32)
        · have h := h.2.2.2.1 (Or.inl c30)
          refine j_tableIn G 103 dX1_runnerWaitsFor_1 (by rw [c30]; decide) (by rw [c30]; decide) (by rw [c30] <;> rfl) (by decide) ?_
          refine j_aload_n G 0 0 dX1_runnerWaitsFor_103 rfl rfl ?_
          have kk16 : kG K (a0 + 37) = (25, 6) := wk_3_37 hW k0
          refine j_get G hW 2 3 40 (.ref (a0 + 37)) k0 (by decide) rfl (by decide) rfl lay_X1 fl_X1_27 rfl rfl dX1_runnerWaitsFor_104 ?_
          refine j_iconst G (1 : Int32) dX1_runnerWaitsFor_107 (by decide) ?_
          have kk17 : (kG K (a0 + 42)).1 = 5 := wk_a25 (i := (1 : Int32)) hW kk16 (vpc rfl) (ad1 (j := 1) (by decide) rfl)
          refine j_aald25 G hW (i := (1 : Int32)) (b := a0 + 42) kk16 (vpc rfl) (ad1 (j := 1) (by decide) rfl) dX1_runnerWaitsFor_108 ?_
          refine j_ci (rn_V G hW (ci := 4) (n := 0) (As := []) (rest := []) (c_X3_isFull K hW l (a0 + 42) kk17 I J B _ h) kk17 (by decide) rfl ml_X1_197 im_X3_isFull se_X3_isFull in_X3 co_X3_isFull rfl (by decide +kernel) rfl rfl (by decide) (by decide) rfl rfl (Nat.le_of_ble_eq_true rfl) dX1_runnerWaitsFor_109) (fun r18 _ h => ?_)
          refine j_if_eq G 119 dX1_runnerWaitsFor_112 (by decide) (fun c19 => ?_) (fun c19 => ?_)
          · have h := h.1 c19
            refine j_iconst G (0 : Int32) dX1_runnerWaitsFor_119 (by decide) ?_
            exact j_reti G I rfl dX1_runnerWaitsFor_120 h rfl
          · have h := h.2 c19
            refine j_iconst G (2 : Int32) dX1_runnerWaitsFor_115 (by decide) ?_
            refine j_goto G 120 dX1_runnerWaitsFor_116 (by decide) ?_
            exact j_reti G I rfl dX1_runnerWaitsFor_120 h rfl
        · skip
          by_cases c31 : x1 = (14 : Int32)
          · have h := h.2.2.2.1 (Or.inr (c31))
            refine j_tableIn G 103 dX1_runnerWaitsFor_1 (by rw [c31]; decide) (by rw [c31]; decide) (by rw [c31] <;> rfl) (by decide) ?_
            refine j_aload_n G 0 0 dX1_runnerWaitsFor_103 rfl rfl ?_
            have kk16 : kG K (a0 + 37) = (25, 6) := wk_3_37 hW k0
            refine j_get G hW 2 3 40 (.ref (a0 + 37)) k0 (by decide) rfl (by decide) rfl lay_X1 fl_X1_27 rfl rfl dX1_runnerWaitsFor_104 ?_
            refine j_iconst G (1 : Int32) dX1_runnerWaitsFor_107 (by decide) ?_
            have kk17 : (kG K (a0 + 42)).1 = 5 := wk_a25 (i := (1 : Int32)) hW kk16 (vpc rfl) (ad1 (j := 1) (by decide) rfl)
            refine j_aald25 G hW (i := (1 : Int32)) (b := a0 + 42) kk16 (vpc rfl) (ad1 (j := 1) (by decide) rfl) dX1_runnerWaitsFor_108 ?_
            refine j_ci (rn_V G hW (ci := 4) (n := 0) (As := []) (rest := []) (c_X3_isFull K hW l (a0 + 42) kk17 I J B _ h) kk17 (by decide) rfl ml_X1_197 im_X3_isFull se_X3_isFull in_X3 co_X3_isFull rfl (by decide +kernel) rfl rfl (by decide) (by decide) rfl rfl (Nat.le_of_ble_eq_true rfl) dX1_runnerWaitsFor_109) (fun r18 _ h => ?_)
            refine j_if_eq G 119 dX1_runnerWaitsFor_112 (by decide) (fun c19 => ?_) (fun c19 => ?_)
            · have h := h.1 c19
              refine j_iconst G (0 : Int32) dX1_runnerWaitsFor_119 (by decide) ?_
              exact j_reti G I rfl dX1_runnerWaitsFor_120 h rfl
            · have h := h.2 c19
              refine j_iconst G (2 : Int32) dX1_runnerWaitsFor_115 (by decide) ?_
              refine j_goto G 120 dX1_runnerWaitsFor_116 (by decide) ?_
              exact j_reti G I rfl dX1_runnerWaitsFor_120 h rfl
          · skip
            by_cases c32 : x1 = (16 : Int32)
            · have h := h.2.2.2.2.1 (c32)
              refine j_tableIn G 139 dX1_runnerWaitsFor_1 (by rw [c32]; decide) (by rw [c32]; decide) (by rw [c32] <;> rfl) (by decide) ?_
              refine j_aload_n G 0 0 dX1_runnerWaitsFor_139 rfl rfl ?_
              have kk20 : kG K (a0 + 37) = (25, 6) := wk_3_37 hW k0
              refine j_get G hW 2 3 40 (.ref (a0 + 37)) k0 (by decide) rfl (by decide) rfl lay_X1 fl_X1_27 rfl rfl dX1_runnerWaitsFor_140 ?_
              refine j_iconst G (4 : Int32) dX1_runnerWaitsFor_143 (by decide) ?_
              have kk21 : (kG K (a0 + 51)).1 = 5 := wk_a25 (i := (4 : Int32)) hW kk20 (vpc rfl) (ad1 (j := 4) (by decide) rfl)
              refine j_aald25 G hW (i := (4 : Int32)) (b := a0 + 51) kk20 (vpc rfl) (ad1 (j := 4) (by decide) rfl) dX1_runnerWaitsFor_144 ?_
              refine j_ci (rn_V G hW (ci := 4) (n := 0) (As := []) (rest := []) (c_X3_isFull K hW l (a0 + 51) kk21 I J B _ h) kk21 (by decide) rfl ml_X1_197 im_X3_isFull se_X3_isFull in_X3 co_X3_isFull rfl (by decide +kernel) rfl rfl (by decide) (by decide) rfl rfl (Nat.le_of_ble_eq_true rfl) dX1_runnerWaitsFor_145) (fun r22 _ h => ?_)
              refine j_if_eq G 155 dX1_runnerWaitsFor_148 (by decide) (fun c23 => ?_) (fun c23 => ?_)
              · have h := h.1 c23
                refine j_iconst G (0 : Int32) dX1_runnerWaitsFor_155 (by decide) ?_
                exact j_reti G I rfl dX1_runnerWaitsFor_156 h rfl
              · have h := h.2 c23
                refine j_iconst G (4 : Int32) dX1_runnerWaitsFor_151 (by decide) ?_
                refine j_goto G 156 dX1_runnerWaitsFor_152 (by decide) ?_
                exact j_reti G I rfl dX1_runnerWaitsFor_156 h rfl
            · skip
              by_cases c33 : x1 = (18 : Int32)
              · have h := h.2.2.2.2.2.1 (c33)
                refine j_tableIn G 157 dX1_runnerWaitsFor_1 (by rw [c33]; decide) (by rw [c33]; decide) (by rw [c33] <;> rfl) (by decide) ?_
                refine j_aload_n G 0 0 dX1_runnerWaitsFor_157 rfl rfl ?_
                have kk24 : kG K (a0 + 37) = (25, 6) := wk_3_37 hW k0
                refine j_get G hW 2 3 40 (.ref (a0 + 37)) k0 (by decide) rfl (by decide) rfl lay_X1 fl_X1_27 rfl rfl dX1_runnerWaitsFor_158 ?_
                refine j_iconst G (5 : Int32) dX1_runnerWaitsFor_161 (by decide) ?_
                have kk25 : (kG K (a0 + 54)).1 = 5 := wk_a25 (i := (5 : Int32)) hW kk24 (vpc rfl) (ad1 (j := 5) (by decide) rfl)
                refine j_aald25 G hW (i := (5 : Int32)) (b := a0 + 54) kk24 (vpc rfl) (ad1 (j := 5) (by decide) rfl) dX1_runnerWaitsFor_162 ?_
                refine j_get G hW 4 3 0 (.int (I (a0 + 54) 3)) kk25 (by decide) rfl (by decide) rfl lay_X3 fl_X1_142 rfl rfl dX1_runnerWaitsFor_163 ?_
                refine j_if_ne G 173 dX1_runnerWaitsFor_166 (by decide) (fun c26 => ?_) (fun c26 => ?_)
                · have h := h.1 c26
                  refine j_iconst G (0 : Int32) dX1_runnerWaitsFor_173 (by decide) ?_
                  exact j_reti G I rfl dX1_runnerWaitsFor_174 h rfl
                · have h := h.2 c26
                  refine j_iconst G (5 : Int32) dX1_runnerWaitsFor_169 (by decide) ?_
                  refine j_goto G 174 dX1_runnerWaitsFor_170 (by decide) ?_
                  exact j_reti G I rfl dX1_runnerWaitsFor_174 h rfl
              · skip
                have h := h.2.2.2.2.2.2 c27 c28 c29 c30 c31 c32 c33
                by_cases c34 : x1 = (12 : Int32)
                · refine j_tableIn G 175 dX1_runnerWaitsFor_1 (by rw [c34]; decide) (by rw [c34]; decide) (by rw [c34] <;> rfl) (by decide) ?_
                  refine j_iconst G (0 : Int32) dX1_runnerWaitsFor_175 (by decide) ?_
                  exact j_reti G I rfl dX1_runnerWaitsFor_176 h rfl
                · skip
                  by_cases c35 : x1 = (15 : Int32)
                  · refine j_tableIn G 175 dX1_runnerWaitsFor_1 (by rw [c35]; decide) (by rw [c35]; decide) (by rw [c35] <;> rfl) (by decide) ?_
                    refine j_iconst G (0 : Int32) dX1_runnerWaitsFor_175 (by decide) ?_
                    exact j_reti G I rfl dX1_runnerWaitsFor_176 h rfl
                  · skip
                    by_cases c36 : x1 = (17 : Int32)
                    · refine j_tableIn G 175 dX1_runnerWaitsFor_1 (by rw [c36]; decide) (by rw [c36]; decide) (by rw [c36] <;> rfl) (by decide) ?_
                      refine j_iconst G (0 : Int32) dX1_runnerWaitsFor_175 (by decide) ?_
                      exact j_reti G I rfl dX1_runnerWaitsFor_176 h rfl
                    · skip
                      have nc27 := sw_ne (n := 9) rfl c27
                      have nc28 := sw_ne (n := 10) rfl c28
                      have nc29 := sw_ne (n := 11) rfl c29
                      have nc34 := sw_ne (n := 12) rfl c34
                      have nc30 := sw_ne (n := 13) rfl c30
                      have nc31 := sw_ne (n := 14) rfl c31
                      have nc35 := sw_ne (n := 15) rfl c35
                      have nc32 := sw_ne (n := 16) rfl c32
                      have nc36 := sw_ne (n := 17) rfl c36
                      have nc33 := sw_ne (n := 18) rfl c33
                      refine j_tableOut G 175 dX1_runnerWaitsFor_1 (by omega) (by decide) ?_
                      refine j_iconst G (0 : Int32) dX1_runnerWaitsFor_175 (by decide) ?_
                      exact j_reti G I rfl dX1_runnerWaitsFor_176 h rfl
abbrev rm_X1_runnerDoes : Room := { frames := 1, cells := 0, slots := 0, locals := 23 }
def w_X1_runnerDoes (a0 : Nat) (x1 : Int32) (a2 : Nat) (I : MI) (Q : Int32 → MI → Prop) : Prop :=
((x1 = (0 : Int32) → (vp_in (I a2 1) 8 ∧
(∀ I5, I5 = ui I (a0 + 35) (ix (I a2 1)) (I a2 4) →
Q ((I5 (a0 + 57) 1) + (1 : Int32)) I5))) ∧
(x1 = (6 : Int32) → Q (I a2 4) I) ∧
(x1 = (8 : Int32) → (∀ I6, I6 = ui I (a0 + 57) 4 (1 : Int32) →
Q (I6 (a0 + 57) 1) I6)) ∧
(x1 = (9 : Int32) → (w_X2_sentAt (a0 + 1) (I (a0 + 57) 1) (I (a0 + 57) 2) I (fun r11 =>
(vp_in r11 8 ∧
(w_X3_add (a0 + 48) (I (a0 + 35) (ix r11)) (-1 : Int32) I (fun I13 =>
Q ((I13 (a0 + 57) 1) + (1 : Int32)) I13)))))) ∧
(x1 = (10 : Int32) → (vp_in (I a2 1) 8 ∧
(∀ I16, I16 = ui I (a0 + 35) (ix (I a2 1)) (I a0 14) →
(∀ I17, I17 = ui I16 a0 13 (-1 : Int32) →
Q ((I17 (a0 + 57) 1) + (1 : Int32)) I17)))) ∧
(x1 = (11 : Int32) → (w_X0_cellBy a2 (a0 + 35) I (fun r22 =>
(vp_in r22 32 ∧
(w_X3_add (a0 + 39) (I (a0 + 36) (ix r22)) (I a0 5) I (fun I24 =>
Q ((I24 (a0 + 57) 1) + (1 : Int32)) I24)))))) ∧
(x1 = (13 : Int32) → (w_X0_cellBy a2 (a0 + 35) I (fun r28 =>
(vp_in (I a2 1) 8 ∧
(w_X3_add (a0 + 42) r28 (I (a0 + 35) (ix (I a2 1))) I (fun I30 =>
Q ((I30 (a0 + 57) 1) + (1 : Int32)) I30)))))) ∧
(x1 = (14 : Int32) → (w_X0_cellBy a2 (a0 + 35) I (fun r34 =>
(w_X3_add (a0 + 42) r34 (-1 : Int32) I (fun I35 =>
Q ((I35 (a0 + 57) 1) + (1 : Int32)) I35))))) ∧
(x1 = (16 : Int32) → (vp_in (I a2 2) 8 ∧
(vp_in (I a2 3) 8 ∧
(w_X0_decide a2 (I (a0 + 35) (ix (I a2 2))) (I (a0 + 35) (ix (I a2 3))) I (fun r39 =>
((r39 = 0 → (w_X3_add (a0 + 51) (0 : Int32) (-1 : Int32) I (fun I43 =>
((r39 = 0 → Q ((I43 (a0 + 57) 1) + (1 : Int32)) I43) ∧
(¬ r39 = 0 → Q (I43 a2 4) I43))))) ∧
(¬ r39 = 0 → (w_X3_add (a0 + 51) (1 : Int32) (-1 : Int32) I (fun I45 =>
((r39 = 0 → Q ((I45 (a0 + 57) 1) + (1 : Int32)) I45) ∧
(¬ r39 = 0 → Q (I45 a2 4) I45))))))))))) ∧
(x1 = (18 : Int32) → (w_X3_take (a0 + 54) I (fun r49 I50 =>
((¬ r49 = (1 : Int32) → Q ((I50 (a0 + 57) 1) + (1 : Int32)) I50) ∧
(r49 = (1 : Int32) → Q (I50 a2 4) I50))))) ∧
(¬ x1 = (0 : Int32) → ¬ x1 = (6 : Int32) → ¬ x1 = (8 : Int32) → ¬ x1 = (9 : Int32) → ¬ x1 = (10 : Int32) → ¬ x1 = (11 : Int32) → ¬ x1 = (13 : Int32) → ¬ x1 = (14 : Int32) → ¬ x1 = (16 : Int32) → ¬ x1 = (18 : Int32) → (vp_in (I a2 2) 8 ∧
(vp_in (I a2 3) 8 ∧
(w_X9_reckon x1 (I (a0 + 35) (ix (I a2 2))) (I (a0 + 35) (ix (I a2 3))) (fun r55 =>
(vp_in (I a2 1) 8 ∧
(∀ I57, I57 = ui I (a0 + 35) (ix (I a2 1)) r55 →
Q ((I57 (a0 + 57) 1) + (1 : Int32)) I57))))))))
set_option maxHeartbeats 4000000 in
set_option maxRecDepth 100000 in
theorem c_X1_runnerDoes (K : Kx) (hW : WFK K) (l : Launch) (a0 : Nat) (x1 : Int32) (a2 : Nat) (k0 : (kG K a0).1 = 3) (k2 : (kG K a2).1 = 2) (I : MI) (J : MJ) (B : MR) (Q : Int32 → MI → Prop) (h : w_X1_runnerDoes a0 x1 a2 I Q) : Con K l yX1_runnerDoes (wsT yX1_runnerDoes cX1_runnerDoes 5 (some .int)) rm_X1_runnerDoes [.ref a0, .int x1, .ref a2] (I, J, B) (va_Qi (S := MI) Q (fun u t => HP K (u, J, B) t.heap) (AA K)) := by
  refine Con.ofJ RX1 rfl (by decide) (Nat.le_of_ble_eq_true rfl) (fun m H0 w G => ?_)
  unfold w_X1_runnerDoes at h
  show Jg K m 5 H0 w 0 [(0, .ref a0), (1, .int x1), (2, .ref a2)] [] (I, J, B)
  refine j_aload_n G 0 0 dX1_runnerDoes_0 rfl rfl ?_
  have kk1 : kG K (a0 + 38) = (26, 2) := wk_3_38 hW k0
  refine j_get G hW 2 4 41 (.ref (a0 + 38)) k0 (by decide) rfl (by decide) rfl lay_X1 fl_X1_33 rfl rfl dX1_runnerDoes_1 ?_
  refine j_iconst G (0 : Int32) dX1_runnerDoes_4 (by decide) ?_
  have kk2 : (kG K (a0 + 57)).1 = 7 := wk_a26 (i := (0 : Int32)) hW kk1 (vpc rfl) (ad1 (j := 0) (by decide) rfl)
  refine j_aald26 G hW (i := (0 : Int32)) (b := a0 + 57) kk1 (vpc rfl) (ad1 (j := 0) (by decide) rfl) dX1_runnerDoes_5 ?_
  refine j_astore_n G 3 [(3, .ref (a0 + 57)), (0, .ref a0), (1, .int x1), (2, .ref a2)] dX1_runnerDoes_6 rfl (by decide) rfl ?_
  refine j_iload_n G 2 1 dX1_runnerDoes_7 rfl rfl ?_
  by_cases c58 : x1 = (0 : Int32)
  · have h := h.1 (c58)
    refine j_tableIn G 358 dX1_runnerDoes_8 (by rw [c58]; decide) (by rw [c58]; decide) (by rw [c58] <;> rfl) (by decide) ?_
    refine j_aload_n G 1 0 dX1_runnerDoes_358 rfl rfl ?_
    have kk3 : kG K (a0 + 35) = (20, 8) := wk_3_35 hW k0
    refine j_get G hW 2 1 38 (.ref (a0 + 35)) k0 (by decide) rfl (by decide) rfl lay_X1 fl_X1_18 rfl rfl dX1_runnerDoes_359 ?_
    refine j_aload_n G 3 2 dX1_runnerDoes_362 rfl rfl ?_
    refine j_get G hW 1 1 0 (.int (I a2 1)) k2 (by decide) rfl (by decide) rfl lay_X0 fl_X1_214 rfl rfl dX1_runnerDoes_363 ?_
    refine j_aload_n G 3 2 dX1_runnerDoes_366 rfl rfl ?_
    refine j_get G hW 1 4 0 (.int (I a2 4)) k2 (by decide) rfl (by decide) rfl lay_X0 fl_X1_227 rfl rfl dX1_runnerDoes_367 ?_
    obtain ⟨b4, h⟩ := h
    refine j_iast G hW kk3 b4 dX1_runnerDoes_370 ?_
    refine j_mI (fun I5 eI5 => ?_)
    have h := h I5 eI5
    refine j_aload_n G 0 3 dX1_runnerDoes_371 rfl rfl ?_
    refine j_get G hW 6 1 0 (.int (I5 (a0 + 57) 1)) kk2 (by decide) rfl (by decide) rfl lay_X5 fl_X1_170 rfl rfl dX1_runnerDoes_372 ?_
    refine j_iconst G (1 : Int32) dX1_runnerDoes_375 (by decide) ?_
    refine j_iadd G dX1_runnerDoes_376 ?_
    exact j_reti G I5 rfl dX1_runnerDoes_377 h rfl
  · skip
    by_cases c59 : x1 = (6 : Int32)
    · have h := h.2.1 (c59)
      refine j_tableIn G 343 dX1_runnerDoes_8 (by rw [c59]; decide) (by rw [c59]; decide) (by rw [c59] <;> rfl) (by decide) ?_
      refine j_aload_n G 3 2 dX1_runnerDoes_343 rfl rfl ?_
      refine j_get G hW 1 4 0 (.int (I a2 4)) k2 (by decide) rfl (by decide) rfl lay_X0 fl_X1_227 rfl rfl dX1_runnerDoes_344 ?_
      exact j_reti G I rfl dX1_runnerDoes_347 h rfl
    · skip
      by_cases c60 : x1 = (8 : Int32)
      · have h := h.2.2.1 (c60)
        refine j_tableIn G 348 dX1_runnerDoes_8 (by rw [c60]; decide) (by rw [c60]; decide) (by rw [c60] <;> rfl) (by decide) ?_
        refine j_aload_n G 0 3 dX1_runnerDoes_348 rfl rfl ?_
        refine j_iconst G (1 : Int32) dX1_runnerDoes_349 (by decide) ?_
        refine j_put G hW 6 4 tyX5 (tyX5 4) tyX5_ok nmX5 kk2 (by decide) rfl (by decide) rfl lay_X5 fl_X1_139 rfl rfl (tyX5_ok 4 (by decide)) (by decide) (by decide) dX1_runnerDoes_350 ?_
        refine j_mI (fun I6 eI6 => ?_)
        have h := h I6 eI6
        refine j_aload_n G 0 3 dX1_runnerDoes_353 rfl rfl ?_
        refine j_get G hW 6 1 0 (.int (I6 (a0 + 57) 1)) kk2 (by decide) rfl (by decide) rfl lay_X5 fl_X1_170 rfl rfl dX1_runnerDoes_354 ?_
        exact j_reti G I6 rfl dX1_runnerDoes_357 h rfl
      · skip
        by_cases c61 : x1 = (9 : Int32)
        · have h := h.2.2.2.1 (c61)
          refine j_tableIn G 100 dX1_runnerDoes_8 (by rw [c61]; decide) (by rw [c61]; decide) (by rw [c61] <;> rfl) (by decide) ?_
          refine j_aload_n G 1 0 dX1_runnerDoes_100 rfl rfl ?_
          have kk7 : kG K (a0 + 37) = (25, 6) := wk_3_37 hW k0
          refine j_get G hW 2 3 40 (.ref (a0 + 37)) k0 (by decide) rfl (by decide) rfl lay_X1 fl_X1_27 rfl rfl dX1_runnerDoes_101 ?_
          refine j_iconst G (3 : Int32) dX1_runnerDoes_104 (by decide) ?_
          have kk8 : (kG K (a0 + 48)).1 = 5 := wk_a25 (i := (3 : Int32)) hW kk7 (vpc rfl) (ad1 (j := 3) (by decide) rfl)
          refine j_aald25 G hW (i := (3 : Int32)) (b := a0 + 48) kk7 (vpc rfl) (ad1 (j := 3) (by decide) rfl) dX1_runnerDoes_105 ?_
          refine j_aload_n G 1 0 dX1_runnerDoes_106 rfl rfl ?_
          have kk9 : kG K (a0 + 35) = (20, 8) := wk_3_35 hW k0
          refine j_get G hW 2 1 38 (.ref (a0 + 35)) k0 (by decide) rfl (by decide) rfl lay_X1 fl_X1_18 rfl rfl dX1_runnerDoes_107 ?_
          refine j_aload_n G 1 0 dX1_runnerDoes_110 rfl rfl ?_
          have kk10 : kG K (a0 + 1) = (4, 0) := wk_3_1 hW k0
          refine j_get G hW 2 0 4 (.ref (a0 + 1)) k0 (by decide) rfl (by decide) rfl lay_X1 fl_X1_12 rfl rfl dX1_runnerDoes_111 ?_
          refine j_aload_n G 0 3 dX1_runnerDoes_114 rfl rfl ?_
          refine j_get G hW 6 1 0 (.int (I (a0 + 57) 1)) kk2 (by decide) rfl (by decide) rfl lay_X5 fl_X1_170 rfl rfl dX1_runnerDoes_115 ?_
          refine j_aload_n G 0 3 dX1_runnerDoes_118 rfl rfl ?_
          refine j_get G hW 6 2 0 (.int (I (a0 + 57) 2)) kk2 (by decide) rfl (by decide) rfl lay_X5 fl_X1_204 rfl rfl dX1_runnerDoes_119 ?_
          refine j_ci (rn_V G hW (ci := 3) (n := 2) (As := [.int (I (a0 + 57) 1), .int (I (a0 + 57) 2)]) (rest := [.ref (a0 + 35), .ref (a0 + 48)]) (c_X2_sentAt K hW l (a0 + 1) (I (a0 + 57) 1) (I (a0 + 57) 2) (congrArg Prod.fst kk10) I J B _ h) (congrArg Prod.fst kk10) (by decide) rfl ml_X1_207 im_X2_sentAt se_X2_sentAt in_X2 co_X2_sentAt rfl (by decide +kernel) rfl rfl (by decide) (by decide) rfl rfl (Nat.le_of_ble_eq_true rfl) dX1_runnerDoes_122) (fun r11 _ h => ?_)
          obtain ⟨b12, h⟩ := h
          refine j_iald G hW kk9 b12 dX1_runnerDoes_125 ?_
          refine j_iconst G (-1 : Int32) dX1_runnerDoes_126 (by decide) ?_
          refine j_cv (rn_V G hW (ci := 4) (n := 2) (As := [.int (I (a0 + 35) (ix r11)), .int (-1 : Int32)]) (rest := []) (c_X3_add K hW l (a0 + 48) (I (a0 + 35) (ix r11)) (-1 : Int32) kk8 I J B _ h) kk8 (by decide) rfl ml_X1_210 im_X3_add se_X3_add in_X3 co_X3_add rfl (by decide +kernel) rfl rfl (by decide) (by decide) rfl rfl (Nat.le_of_ble_eq_true rfl) dX1_runnerDoes_127) (fun I13 h => ?_)
          refine j_aload_n G 0 3 dX1_runnerDoes_130 rfl rfl ?_
          refine j_get G hW 6 1 0 (.int (I13 (a0 + 57) 1)) kk2 (by decide) rfl (by decide) rfl lay_X5 fl_X1_170 rfl rfl dX1_runnerDoes_131 ?_
          refine j_iconst G (1 : Int32) dX1_runnerDoes_134 (by decide) ?_
          refine j_iadd G dX1_runnerDoes_135 ?_
          exact j_reti G I13 rfl dX1_runnerDoes_136 h rfl
        · skip
          by_cases c62 : x1 = (10 : Int32)
          · have h := h.2.2.2.2.1 (c62)
            refine j_tableIn G 137 dX1_runnerDoes_8 (by rw [c62]; decide) (by rw [c62]; decide) (by rw [c62] <;> rfl) (by decide) ?_
            refine j_aload_n G 1 0 dX1_runnerDoes_137 rfl rfl ?_
            have kk14 : kG K (a0 + 35) = (20, 8) := wk_3_35 hW k0
            refine j_get G hW 2 1 38 (.ref (a0 + 35)) k0 (by decide) rfl (by decide) rfl lay_X1 fl_X1_18 rfl rfl dX1_runnerDoes_138 ?_
            refine j_aload_n G 3 2 dX1_runnerDoes_141 rfl rfl ?_
            refine j_get G hW 1 1 0 (.int (I a2 1)) k2 (by decide) rfl (by decide) rfl lay_X0 fl_X1_214 rfl rfl dX1_runnerDoes_142 ?_
            refine j_aload_n G 1 0 dX1_runnerDoes_145 rfl rfl ?_
            refine j_get G hW 2 14 0 (.int (I a0 14)) k0 (by decide) rfl (by decide) rfl lay_X1 fl_X1_88 rfl rfl dX1_runnerDoes_146 ?_
            obtain ⟨b15, h⟩ := h
            refine j_iast G hW kk14 b15 dX1_runnerDoes_149 ?_
            refine j_mI (fun I16 eI16 => ?_)
            have h := h I16 eI16
            refine j_aload_n G 1 0 dX1_runnerDoes_150 rfl rfl ?_
            refine j_iconst G (-1 : Int32) dX1_runnerDoes_151 (by decide) ?_
            refine j_put G hW 2 13 tyX1 (tyX1 13) tyX1_ok nmX1 k0 (by decide) rfl (by decide) rfl lay_X1 fl_X1_85 rfl rfl (tyX1_ok 13 (by decide)) rfl rfl dX1_runnerDoes_152 ?_
            refine j_mI (fun I17 eI17 => ?_)
            have h := h I17 eI17
            refine j_aload_n G 0 3 dX1_runnerDoes_155 rfl rfl ?_
            refine j_get G hW 6 1 0 (.int (I17 (a0 + 57) 1)) kk2 (by decide) rfl (by decide) rfl lay_X5 fl_X1_170 rfl rfl dX1_runnerDoes_156 ?_
            refine j_iconst G (1 : Int32) dX1_runnerDoes_159 (by decide) ?_
            refine j_iadd G dX1_runnerDoes_160 ?_
            exact j_reti G I17 rfl dX1_runnerDoes_161 h rfl
          · skip
            by_cases c63 : x1 = (11 : Int32)
            · have h := h.2.2.2.2.2.1 (c63)
              refine j_tableIn G 162 dX1_runnerDoes_8 (by rw [c63]; decide) (by rw [c63]; decide) (by rw [c63] <;> rfl) (by decide) ?_
              refine j_aload_n G 1 0 dX1_runnerDoes_162 rfl rfl ?_
              have kk18 : kG K (a0 + 37) = (25, 6) := wk_3_37 hW k0
              refine j_get G hW 2 3 40 (.ref (a0 + 37)) k0 (by decide) rfl (by decide) rfl lay_X1 fl_X1_27 rfl rfl dX1_runnerDoes_163 ?_
              refine j_iconst G (0 : Int32) dX1_runnerDoes_166 (by decide) ?_
              have kk19 : (kG K (a0 + 39)).1 = 5 := wk_a25 (i := (0 : Int32)) hW kk18 (vpc rfl) (ad1 (j := 0) (by decide) rfl)
              refine j_aald25 G hW (i := (0 : Int32)) (b := a0 + 39) kk18 (vpc rfl) (ad1 (j := 0) (by decide) rfl) dX1_runnerDoes_167 ?_
              refine j_aload_n G 1 0 dX1_runnerDoes_168 rfl rfl ?_
              have kk20 : kG K (a0 + 36) = (20, 32) := wk_3_36 hW k0
              refine j_get G hW 2 2 39 (.ref (a0 + 36)) k0 (by decide) rfl (by decide) rfl lay_X1 fl_X1_22 rfl rfl dX1_runnerDoes_169 ?_
              refine j_aload_n G 3 2 dX1_runnerDoes_172 rfl rfl ?_
              refine j_aload_n G 1 0 dX1_runnerDoes_173 rfl rfl ?_
              have kk21 : kG K (a0 + 35) = (20, 8) := wk_3_35 hW k0
              refine j_get G hW 2 1 38 (.ref (a0 + 35)) k0 (by decide) rfl (by decide) rfl lay_X1 fl_X1_18 rfl rfl dX1_runnerDoes_174 ?_
              refine j_ci (rn_V G hW (ci := 1) (n := 1) (As := [.ref (a0 + 35)]) (rest := [.ref (a0 + 36), .ref (a0 + 39)]) (c_X0_cellBy K hW l a2 (a0 + 35) k2 kk21 I J B _ h) k2 (by decide) rfl ml_X1_188 im_X0_cellBy se_X0_cellBy in_X0 co_X0_cellBy rfl (by decide +kernel) rfl rfl (by decide) (by decide) rfl rfl (Nat.le_of_ble_eq_true rfl) dX1_runnerDoes_177) (fun r22 _ h => ?_)
              obtain ⟨b23, h⟩ := h
              refine j_iald G hW kk20 b23 dX1_runnerDoes_180 ?_
              refine j_aload_n G 1 0 dX1_runnerDoes_181 rfl rfl ?_
              refine j_get G hW 2 5 0 (.int (I a0 5)) k0 (by decide) rfl (by decide) rfl lay_X1 fl_X1_59 rfl rfl dX1_runnerDoes_182 ?_
              refine j_cv (rn_V G hW (ci := 4) (n := 2) (As := [.int (I (a0 + 36) (ix r22)), .int (I a0 5)]) (rest := []) (c_X3_add K hW l (a0 + 39) (I (a0 + 36) (ix r22)) (I a0 5) kk19 I J B _ h) kk19 (by decide) rfl ml_X1_210 im_X3_add se_X3_add in_X3 co_X3_add rfl (by decide +kernel) rfl rfl (by decide) (by decide) rfl rfl (Nat.le_of_ble_eq_true rfl) dX1_runnerDoes_185) (fun I24 h => ?_)
              refine j_aload_n G 0 3 dX1_runnerDoes_188 rfl rfl ?_
              refine j_get G hW 6 1 0 (.int (I24 (a0 + 57) 1)) kk2 (by decide) rfl (by decide) rfl lay_X5 fl_X1_170 rfl rfl dX1_runnerDoes_189 ?_
              refine j_iconst G (1 : Int32) dX1_runnerDoes_192 (by decide) ?_
              refine j_iadd G dX1_runnerDoes_193 ?_
              exact j_reti G I24 rfl dX1_runnerDoes_194 h rfl
            · skip
              by_cases c64 : x1 = (13 : Int32)
              · have h := h.2.2.2.2.2.2.1 (c64)
                refine j_tableIn G 195 dX1_runnerDoes_8 (by rw [c64]; decide) (by rw [c64]; decide) (by rw [c64] <;> rfl) (by decide) ?_
                refine j_aload_n G 1 0 dX1_runnerDoes_195 rfl rfl ?_
                have kk25 : kG K (a0 + 37) = (25, 6) := wk_3_37 hW k0
                refine j_get G hW 2 3 40 (.ref (a0 + 37)) k0 (by decide) rfl (by decide) rfl lay_X1 fl_X1_27 rfl rfl dX1_runnerDoes_196 ?_
                refine j_iconst G (1 : Int32) dX1_runnerDoes_199 (by decide) ?_
                have kk26 : (kG K (a0 + 42)).1 = 5 := wk_a25 (i := (1 : Int32)) hW kk25 (vpc rfl) (ad1 (j := 1) (by decide) rfl)
                refine j_aald25 G hW (i := (1 : Int32)) (b := a0 + 42) kk25 (vpc rfl) (ad1 (j := 1) (by decide) rfl) dX1_runnerDoes_200 ?_
                refine j_aload_n G 3 2 dX1_runnerDoes_201 rfl rfl ?_
                refine j_aload_n G 1 0 dX1_runnerDoes_202 rfl rfl ?_
                have kk27 : kG K (a0 + 35) = (20, 8) := wk_3_35 hW k0
                refine j_get G hW 2 1 38 (.ref (a0 + 35)) k0 (by decide) rfl (by decide) rfl lay_X1 fl_X1_18 rfl rfl dX1_runnerDoes_203 ?_
                refine j_ci (rn_V G hW (ci := 1) (n := 1) (As := [.ref (a0 + 35)]) (rest := [.ref (a0 + 42)]) (c_X0_cellBy K hW l a2 (a0 + 35) k2 kk27 I J B _ h) k2 (by decide) rfl ml_X1_188 im_X0_cellBy se_X0_cellBy in_X0 co_X0_cellBy rfl (by decide +kernel) rfl rfl (by decide) (by decide) rfl rfl (Nat.le_of_ble_eq_true rfl) dX1_runnerDoes_206) (fun r28 _ h => ?_)
                refine j_aload_n G 1 0 dX1_runnerDoes_209 rfl rfl ?_
                refine j_get G hW 2 1 38 (.ref (a0 + 35)) k0 (by decide) rfl (by decide) rfl lay_X1 fl_X1_18 rfl rfl dX1_runnerDoes_210 ?_
                refine j_aload_n G 3 2 dX1_runnerDoes_213 rfl rfl ?_
                refine j_get G hW 1 1 0 (.int (I a2 1)) k2 (by decide) rfl (by decide) rfl lay_X0 fl_X1_214 rfl rfl dX1_runnerDoes_214 ?_
                obtain ⟨b29, h⟩ := h
                refine j_iald G hW kk27 b29 dX1_runnerDoes_217 ?_
                refine j_cv (rn_V G hW (ci := 4) (n := 2) (As := [.int r28, .int (I (a0 + 35) (ix (I a2 1)))]) (rest := []) (c_X3_add K hW l (a0 + 42) r28 (I (a0 + 35) (ix (I a2 1))) kk26 I J B _ h) kk26 (by decide) rfl ml_X1_210 im_X3_add se_X3_add in_X3 co_X3_add rfl (by decide +kernel) rfl rfl (by decide) (by decide) rfl rfl (Nat.le_of_ble_eq_true rfl) dX1_runnerDoes_218) (fun I30 h => ?_)
                refine j_aload_n G 0 3 dX1_runnerDoes_221 rfl rfl ?_
                refine j_get G hW 6 1 0 (.int (I30 (a0 + 57) 1)) kk2 (by decide) rfl (by decide) rfl lay_X5 fl_X1_170 rfl rfl dX1_runnerDoes_222 ?_
                refine j_iconst G (1 : Int32) dX1_runnerDoes_225 (by decide) ?_
                refine j_iadd G dX1_runnerDoes_226 ?_
                exact j_reti G I30 rfl dX1_runnerDoes_227 h rfl
              · skip
                by_cases c65 : x1 = (14 : Int32)
                · have h := h.2.2.2.2.2.2.2.1 (c65)
                  refine j_tableIn G 228 dX1_runnerDoes_8 (by rw [c65]; decide) (by rw [c65]; decide) (by rw [c65] <;> rfl) (by decide) ?_
                  refine j_aload_n G 1 0 dX1_runnerDoes_228 rfl rfl ?_
                  have kk31 : kG K (a0 + 37) = (25, 6) := wk_3_37 hW k0
                  refine j_get G hW 2 3 40 (.ref (a0 + 37)) k0 (by decide) rfl (by decide) rfl lay_X1 fl_X1_27 rfl rfl dX1_runnerDoes_229 ?_
                  refine j_iconst G (1 : Int32) dX1_runnerDoes_232 (by decide) ?_
                  have kk32 : (kG K (a0 + 42)).1 = 5 := wk_a25 (i := (1 : Int32)) hW kk31 (vpc rfl) (ad1 (j := 1) (by decide) rfl)
                  refine j_aald25 G hW (i := (1 : Int32)) (b := a0 + 42) kk31 (vpc rfl) (ad1 (j := 1) (by decide) rfl) dX1_runnerDoes_233 ?_
                  refine j_aload_n G 3 2 dX1_runnerDoes_234 rfl rfl ?_
                  refine j_aload_n G 1 0 dX1_runnerDoes_235 rfl rfl ?_
                  have kk33 : kG K (a0 + 35) = (20, 8) := wk_3_35 hW k0
                  refine j_get G hW 2 1 38 (.ref (a0 + 35)) k0 (by decide) rfl (by decide) rfl lay_X1 fl_X1_18 rfl rfl dX1_runnerDoes_236 ?_
                  refine j_ci (rn_V G hW (ci := 1) (n := 1) (As := [.ref (a0 + 35)]) (rest := [.ref (a0 + 42)]) (c_X0_cellBy K hW l a2 (a0 + 35) k2 kk33 I J B _ h) k2 (by decide) rfl ml_X1_188 im_X0_cellBy se_X0_cellBy in_X0 co_X0_cellBy rfl (by decide +kernel) rfl rfl (by decide) (by decide) rfl rfl (Nat.le_of_ble_eq_true rfl) dX1_runnerDoes_239) (fun r34 _ h => ?_)
                  refine j_iconst G (-1 : Int32) dX1_runnerDoes_242 (by decide) ?_
                  refine j_cv (rn_V G hW (ci := 4) (n := 2) (As := [.int r34, .int (-1 : Int32)]) (rest := []) (c_X3_add K hW l (a0 + 42) r34 (-1 : Int32) kk32 I J B _ h) kk32 (by decide) rfl ml_X1_210 im_X3_add se_X3_add in_X3 co_X3_add rfl (by decide +kernel) rfl rfl (by decide) (by decide) rfl rfl (Nat.le_of_ble_eq_true rfl) dX1_runnerDoes_243) (fun I35 h => ?_)
                  refine j_aload_n G 0 3 dX1_runnerDoes_246 rfl rfl ?_
                  refine j_get G hW 6 1 0 (.int (I35 (a0 + 57) 1)) kk2 (by decide) rfl (by decide) rfl lay_X5 fl_X1_170 rfl rfl dX1_runnerDoes_247 ?_
                  refine j_iconst G (1 : Int32) dX1_runnerDoes_250 (by decide) ?_
                  refine j_iadd G dX1_runnerDoes_251 ?_
                  exact j_reti G I35 rfl dX1_runnerDoes_252 h rfl
                · skip
                  by_cases c66 : x1 = (16 : Int32)
                  · have h := h.2.2.2.2.2.2.2.2.1 (c66)
                    refine j_tableIn G 253 dX1_runnerDoes_8 (by rw [c66]; decide) (by rw [c66]; decide) (by rw [c66] <;> rfl) (by decide) ?_
                    refine j_aload_n G 3 2 dX1_runnerDoes_253 rfl rfl ?_
                    refine j_aload_n G 1 0 dX1_runnerDoes_254 rfl rfl ?_
                    have kk36 : kG K (a0 + 35) = (20, 8) := wk_3_35 hW k0
                    refine j_get G hW 2 1 38 (.ref (a0 + 35)) k0 (by decide) rfl (by decide) rfl lay_X1 fl_X1_18 rfl rfl dX1_runnerDoes_255 ?_
                    refine j_aload_n G 3 2 dX1_runnerDoes_258 rfl rfl ?_
                    refine j_get G hW 1 2 0 (.int (I a2 2)) k2 (by decide) rfl (by decide) rfl lay_X0 fl_X1_217 rfl rfl dX1_runnerDoes_259 ?_
                    obtain ⟨b37, h⟩ := h
                    refine j_iald G hW kk36 b37 dX1_runnerDoes_262 ?_
                    refine j_aload_n G 1 0 dX1_runnerDoes_263 rfl rfl ?_
                    refine j_get G hW 2 1 38 (.ref (a0 + 35)) k0 (by decide) rfl (by decide) rfl lay_X1 fl_X1_18 rfl rfl dX1_runnerDoes_264 ?_
                    refine j_aload_n G 3 2 dX1_runnerDoes_267 rfl rfl ?_
                    refine j_get G hW 1 3 0 (.int (I a2 3)) k2 (by decide) rfl (by decide) rfl lay_X0 fl_X1_220 rfl rfl dX1_runnerDoes_268 ?_
                    obtain ⟨b38, h⟩ := h
                    refine j_iald G hW kk36 b38 dX1_runnerDoes_271 ?_
                    refine j_ci (rn_V G hW (ci := 1) (n := 2) (As := [.int (I (a0 + 35) (ix (I a2 2))), .int (I (a0 + 35) (ix (I a2 3)))]) (rest := []) (c_X0_decide K hW l a2 (I (a0 + 35) (ix (I a2 2))) (I (a0 + 35) (ix (I a2 3))) k2 I J B _ h) k2 (by decide) rfl ml_X1_223 im_X0_decide se_X0_decide in_X0 co_X0_decide rfl (by decide +kernel) rfl rfl (by decide) (by decide) rfl rfl (Nat.le_of_ble_eq_true rfl) dX1_runnerDoes_272) (fun r39 _ h => ?_)
                    refine j_istore G [(4, .int r39), (3, .ref (a0 + 57)), (0, .ref a0), (1, .int x1), (2, .ref a2)] dX1_runnerDoes_275 (by decide) rfl ?_
                    refine j_aload_n G 2 0 dX1_runnerDoes_277 rfl rfl ?_
                    have kk40 : kG K (a0 + 37) = (25, 6) := wk_3_37 hW k0
                    refine j_get G hW 2 3 40 (.ref (a0 + 37)) k0 (by decide) rfl (by decide) rfl lay_X1 fl_X1_27 rfl rfl dX1_runnerDoes_278 ?_
                    refine j_iconst G (4 : Int32) dX1_runnerDoes_281 (by decide) ?_
                    have kk41 : (kG K (a0 + 51)).1 = 5 := wk_a25 (i := (4 : Int32)) hW kk40 (vpc rfl) (ad1 (j := 4) (by decide) rfl)
                    refine j_aald25 G hW (i := (4 : Int32)) (b := a0 + 51) kk40 (vpc rfl) (ad1 (j := 4) (by decide) rfl) dX1_runnerDoes_282 ?_
                    refine j_iload G 0 dX1_runnerDoes_283 rfl ?_
                    refine j_if_eq G 292 dX1_runnerDoes_285 (by decide) (fun c42 => ?_) (fun c42 => ?_)
                    · have h := h.1 c42
                      refine j_iconst G (0 : Int32) dX1_runnerDoes_292 (by decide) ?_
                      refine j_iconst G (-1 : Int32) dX1_runnerDoes_293 (by decide) ?_
                      refine j_cv (rn_V G hW (ci := 4) (n := 2) (As := [.int (0 : Int32), .int (-1 : Int32)]) (rest := []) (c_X3_add K hW l (a0 + 51) (0 : Int32) (-1 : Int32) kk41 I J B _ h) kk41 (by decide) rfl ml_X1_210 im_X3_add se_X3_add in_X3 co_X3_add rfl (by decide +kernel) rfl rfl (by decide) (by decide) rfl rfl (Nat.le_of_ble_eq_true rfl) dX1_runnerDoes_294) (fun I43 h => ?_)
                      refine j_iload G 0 dX1_runnerDoes_297 rfl ?_
                      refine j_if_eq G 309 dX1_runnerDoes_299 (by decide) (fun c44 => ?_) (fun c44 => ?_)
                      · have h := h.1 c44
                        refine j_aload_n G 1 3 dX1_runnerDoes_309 rfl rfl ?_
                        refine j_get G hW 6 1 0 (.int (I43 (a0 + 57) 1)) kk2 (by decide) rfl (by decide) rfl lay_X5 fl_X1_170 rfl rfl dX1_runnerDoes_310 ?_
                        refine j_iconst G (1 : Int32) dX1_runnerDoes_313 (by decide) ?_
                        refine j_iadd G dX1_runnerDoes_314 ?_
                        exact j_reti G I43 rfl dX1_runnerDoes_315 h rfl
                      · have h := h.2 c44
                        refine j_aload_n G 4 2 dX1_runnerDoes_302 rfl rfl ?_
                        refine j_get G hW 1 4 0 (.int (I43 a2 4)) k2 (by decide) rfl (by decide) rfl lay_X0 fl_X1_227 rfl rfl dX1_runnerDoes_303 ?_
                        refine j_goto G 315 dX1_runnerDoes_306 (by decide) ?_
                        exact j_reti G I43 rfl dX1_runnerDoes_315 h rfl
                    · have h := h.2 c42
                      refine j_iconst G (1 : Int32) dX1_runnerDoes_288 (by decide) ?_
                      refine j_goto G 293 dX1_runnerDoes_289 (by decide) ?_
                      refine j_iconst G (-1 : Int32) dX1_runnerDoes_293 (by decide) ?_
                      refine j_cv (rn_V G hW (ci := 4) (n := 2) (As := [.int (1 : Int32), .int (-1 : Int32)]) (rest := []) (c_X3_add K hW l (a0 + 51) (1 : Int32) (-1 : Int32) kk41 I J B _ h) kk41 (by decide) rfl ml_X1_210 im_X3_add se_X3_add in_X3 co_X3_add rfl (by decide +kernel) rfl rfl (by decide) (by decide) rfl rfl (Nat.le_of_ble_eq_true rfl) dX1_runnerDoes_294) (fun I45 h => ?_)
                      refine j_iload G 0 dX1_runnerDoes_297 rfl ?_
                      refine j_if_eq G 309 dX1_runnerDoes_299 (by decide) (fun c46 => ?_) (fun c46 => ?_)
                      · have h := h.1 c46
                        refine j_aload_n G 1 3 dX1_runnerDoes_309 rfl rfl ?_
                        refine j_get G hW 6 1 0 (.int (I45 (a0 + 57) 1)) kk2 (by decide) rfl (by decide) rfl lay_X5 fl_X1_170 rfl rfl dX1_runnerDoes_310 ?_
                        refine j_iconst G (1 : Int32) dX1_runnerDoes_313 (by decide) ?_
                        refine j_iadd G dX1_runnerDoes_314 ?_
                        exact j_reti G I45 rfl dX1_runnerDoes_315 h rfl
                      · have h := h.2 c46
                        refine j_aload_n G 4 2 dX1_runnerDoes_302 rfl rfl ?_
                        refine j_get G hW 1 4 0 (.int (I45 a2 4)) k2 (by decide) rfl (by decide) rfl lay_X0 fl_X1_227 rfl rfl dX1_runnerDoes_303 ?_
                        refine j_goto G 315 dX1_runnerDoes_306 (by decide) ?_
                        exact j_reti G I45 rfl dX1_runnerDoes_315 h rfl
                  · skip
                    by_cases c67 : x1 = (18 : Int32)
                    · have h := h.2.2.2.2.2.2.2.2.2.1 (c67)
                      refine j_tableIn G 316 dX1_runnerDoes_8 (by rw [c67]; decide) (by rw [c67]; decide) (by rw [c67] <;> rfl) (by decide) ?_
                      refine j_aload_n G 1 0 dX1_runnerDoes_316 rfl rfl ?_
                      have kk47 : kG K (a0 + 37) = (25, 6) := wk_3_37 hW k0
                      refine j_get G hW 2 3 40 (.ref (a0 + 37)) k0 (by decide) rfl (by decide) rfl lay_X1 fl_X1_27 rfl rfl dX1_runnerDoes_317 ?_
                      refine j_iconst G (5 : Int32) dX1_runnerDoes_320 (by decide) ?_
                      have kk48 : (kG K (a0 + 54)).1 = 5 := wk_a25 (i := (5 : Int32)) hW kk47 (vpc rfl) (ad1 (j := 5) (by decide) rfl)
                      refine j_aald25 G hW (i := (5 : Int32)) (b := a0 + 54) kk47 (vpc rfl) (ad1 (j := 5) (by decide) rfl) dX1_runnerDoes_321 ?_
                      refine j_ci (rn_V G hW (ci := 4) (n := 0) (As := []) (rest := []) (c_X3_take K hW l (a0 + 54) kk48 I J B _ h) kk48 (by decide) rfl ml_X1_157 im_X3_take se_X3_take in_X3 co_X3_take rfl (by decide +kernel) rfl rfl (by decide) (by decide) rfl rfl (Nat.le_of_ble_eq_true rfl) dX1_runnerDoes_322) (fun r49 I50 h => ?_)
                      refine j_iconst G (1 : Int32) dX1_runnerDoes_325 (by decide) ?_
                      refine j_icmp_ne G 336 dX1_runnerDoes_326 (by decide) (fun c51 => ?_) (fun c51 => ?_)
                      · have h := h.1 c51
                        refine j_aload_n G 0 3 dX1_runnerDoes_336 rfl rfl ?_
                        refine j_get G hW 6 1 0 (.int (I50 (a0 + 57) 1)) kk2 (by decide) rfl (by decide) rfl lay_X5 fl_X1_170 rfl rfl dX1_runnerDoes_337 ?_
                        refine j_iconst G (1 : Int32) dX1_runnerDoes_340 (by decide) ?_
                        refine j_iadd G dX1_runnerDoes_341 ?_
                        exact j_reti G I50 rfl dX1_runnerDoes_342 h rfl
                      · have h := h.2 c51
                        refine j_aload_n G 3 2 dX1_runnerDoes_329 rfl rfl ?_
                        refine j_get G hW 1 4 0 (.int (I50 a2 4)) k2 (by decide) rfl (by decide) rfl lay_X0 fl_X1_227 rfl rfl dX1_runnerDoes_330 ?_
                        refine j_goto G 342 dX1_runnerDoes_333 (by decide) ?_
                        exact j_reti G I50 rfl dX1_runnerDoes_342 h rfl
                    · skip
                      have h := h.2.2.2.2.2.2.2.2.2.2 c58 c59 c60 c61 c62 c63 c64 c65 c66 c67
                      by_cases c68 : x1 = (1 : Int32)
                      · refine j_tableIn G 378 dX1_runnerDoes_8 (by rw [c68]; decide) (by rw [c68]; decide) (by rw [c68] <;> rfl) (by decide) ?_
                        refine j_aload_n G 1 0 dX1_runnerDoes_378 rfl rfl ?_
                        have kk52 : kG K (a0 + 35) = (20, 8) := wk_3_35 hW k0
                        refine j_get G hW 2 1 38 (.ref (a0 + 35)) k0 (by decide) rfl (by decide) rfl lay_X1 fl_X1_18 rfl rfl dX1_runnerDoes_379 ?_
                        refine j_aload_n G 3 2 dX1_runnerDoes_382 rfl rfl ?_
                        refine j_get G hW 1 1 0 (.int (I a2 1)) k2 (by decide) rfl (by decide) rfl lay_X0 fl_X1_214 rfl rfl dX1_runnerDoes_383 ?_
                        refine j_iload_n G 2 1 dX1_runnerDoes_386 rfl rfl ?_
                        refine j_aload_n G 1 0 dX1_runnerDoes_387 rfl rfl ?_
                        refine j_get G hW 2 1 38 (.ref (a0 + 35)) k0 (by decide) rfl (by decide) rfl lay_X1 fl_X1_18 rfl rfl dX1_runnerDoes_388 ?_
                        refine j_aload_n G 3 2 dX1_runnerDoes_391 rfl rfl ?_
                        refine j_get G hW 1 2 0 (.int (I a2 2)) k2 (by decide) rfl (by decide) rfl lay_X0 fl_X1_217 rfl rfl dX1_runnerDoes_392 ?_
                        obtain ⟨b53, h⟩ := h
                        refine j_iald G hW kk52 b53 dX1_runnerDoes_395 ?_
                        refine j_aload_n G 1 0 dX1_runnerDoes_396 rfl rfl ?_
                        refine j_get G hW 2 1 38 (.ref (a0 + 35)) k0 (by decide) rfl (by decide) rfl lay_X1 fl_X1_18 rfl rfl dX1_runnerDoes_397 ?_
                        refine j_aload_n G 3 2 dX1_runnerDoes_400 rfl rfl ?_
                        refine j_get G hW 1 3 0 (.int (I a2 3)) k2 (by decide) rfl (by decide) rfl lay_X0 fl_X1_220 rfl rfl dX1_runnerDoes_401 ?_
                        obtain ⟨b54, h⟩ := h
                        refine j_iald G hW kk52 b54 dX1_runnerDoes_404 ?_
                        refine j_ci (rn_N G (n := 3) (As := [.int x1, .int (I (a0 + 35) (ix (I a2 2))), .int (I (a0 + 35) (ix (I a2 3)))]) (rest := [.int (I a2 1), .ref (a0 + 35)]) (c_X9_reckon K hW l x1 (I (a0 + 35) (ix (I a2 2))) (I (a0 + 35) (ix (I a2 3))) I J B _ h) (List.mem_of_getElem? (i := 7) rfl) st_X9_reckon in_X9 co_X9_reckon (by decide +kernel) rfl rfl (by decide) (by decide) rfl rfl (Nat.le_of_ble_eq_true rfl) dX1_runnerDoes_405) (fun r55 _ h => ?_)
                        obtain ⟨b56, h⟩ := h
                        refine j_iast G hW kk52 b56 dX1_runnerDoes_408 ?_
                        refine j_mI (fun I57 eI57 => ?_)
                        have h := h I57 eI57
                        refine j_aload_n G 0 3 dX1_runnerDoes_409 rfl rfl ?_
                        refine j_get G hW 6 1 0 (.int (I57 (a0 + 57) 1)) kk2 (by decide) rfl (by decide) rfl lay_X5 fl_X1_170 rfl rfl dX1_runnerDoes_410 ?_
                        refine j_iconst G (1 : Int32) dX1_runnerDoes_413 (by decide) ?_
                        refine j_iadd G dX1_runnerDoes_414 ?_
                        exact j_reti G I57 rfl dX1_runnerDoes_415 h rfl
                      · skip
                        by_cases c69 : x1 = (2 : Int32)
                        · refine j_tableIn G 378 dX1_runnerDoes_8 (by rw [c69]; decide) (by rw [c69]; decide) (by rw [c69] <;> rfl) (by decide) ?_
                          refine j_aload_n G 1 0 dX1_runnerDoes_378 rfl rfl ?_
                          have kk52 : kG K (a0 + 35) = (20, 8) := wk_3_35 hW k0
                          refine j_get G hW 2 1 38 (.ref (a0 + 35)) k0 (by decide) rfl (by decide) rfl lay_X1 fl_X1_18 rfl rfl dX1_runnerDoes_379 ?_
                          refine j_aload_n G 3 2 dX1_runnerDoes_382 rfl rfl ?_
                          refine j_get G hW 1 1 0 (.int (I a2 1)) k2 (by decide) rfl (by decide) rfl lay_X0 fl_X1_214 rfl rfl dX1_runnerDoes_383 ?_
                          refine j_iload_n G 2 1 dX1_runnerDoes_386 rfl rfl ?_
                          refine j_aload_n G 1 0 dX1_runnerDoes_387 rfl rfl ?_
                          refine j_get G hW 2 1 38 (.ref (a0 + 35)) k0 (by decide) rfl (by decide) rfl lay_X1 fl_X1_18 rfl rfl dX1_runnerDoes_388 ?_
                          refine j_aload_n G 3 2 dX1_runnerDoes_391 rfl rfl ?_
                          refine j_get G hW 1 2 0 (.int (I a2 2)) k2 (by decide) rfl (by decide) rfl lay_X0 fl_X1_217 rfl rfl dX1_runnerDoes_392 ?_
                          obtain ⟨b53, h⟩ := h
                          refine j_iald G hW kk52 b53 dX1_runnerDoes_395 ?_
                          refine j_aload_n G 1 0 dX1_runnerDoes_396 rfl rfl ?_
                          refine j_get G hW 2 1 38 (.ref (a0 + 35)) k0 (by decide) rfl (by decide) rfl lay_X1 fl_X1_18 rfl rfl dX1_runnerDoes_397 ?_
                          refine j_aload_n G 3 2 dX1_runnerDoes_400 rfl rfl ?_
                          refine j_get G hW 1 3 0 (.int (I a2 3)) k2 (by decide) rfl (by decide) rfl lay_X0 fl_X1_220 rfl rfl dX1_runnerDoes_401 ?_
                          obtain ⟨b54, h⟩ := h
                          refine j_iald G hW kk52 b54 dX1_runnerDoes_404 ?_
                          refine j_ci (rn_N G (n := 3) (As := [.int x1, .int (I (a0 + 35) (ix (I a2 2))), .int (I (a0 + 35) (ix (I a2 3)))]) (rest := [.int (I a2 1), .ref (a0 + 35)]) (c_X9_reckon K hW l x1 (I (a0 + 35) (ix (I a2 2))) (I (a0 + 35) (ix (I a2 3))) I J B _ h) (List.mem_of_getElem? (i := 7) rfl) st_X9_reckon in_X9 co_X9_reckon (by decide +kernel) rfl rfl (by decide) (by decide) rfl rfl (Nat.le_of_ble_eq_true rfl) dX1_runnerDoes_405) (fun r55 _ h => ?_)
                          obtain ⟨b56, h⟩ := h
                          refine j_iast G hW kk52 b56 dX1_runnerDoes_408 ?_
                          refine j_mI (fun I57 eI57 => ?_)
                          have h := h I57 eI57
                          refine j_aload_n G 0 3 dX1_runnerDoes_409 rfl rfl ?_
                          refine j_get G hW 6 1 0 (.int (I57 (a0 + 57) 1)) kk2 (by decide) rfl (by decide) rfl lay_X5 fl_X1_170 rfl rfl dX1_runnerDoes_410 ?_
                          refine j_iconst G (1 : Int32) dX1_runnerDoes_413 (by decide) ?_
                          refine j_iadd G dX1_runnerDoes_414 ?_
                          exact j_reti G I57 rfl dX1_runnerDoes_415 h rfl
                        · skip
                          by_cases c70 : x1 = (3 : Int32)
                          · refine j_tableIn G 378 dX1_runnerDoes_8 (by rw [c70]; decide) (by rw [c70]; decide) (by rw [c70] <;> rfl) (by decide) ?_
                            refine j_aload_n G 1 0 dX1_runnerDoes_378 rfl rfl ?_
                            have kk52 : kG K (a0 + 35) = (20, 8) := wk_3_35 hW k0
                            refine j_get G hW 2 1 38 (.ref (a0 + 35)) k0 (by decide) rfl (by decide) rfl lay_X1 fl_X1_18 rfl rfl dX1_runnerDoes_379 ?_
                            refine j_aload_n G 3 2 dX1_runnerDoes_382 rfl rfl ?_
                            refine j_get G hW 1 1 0 (.int (I a2 1)) k2 (by decide) rfl (by decide) rfl lay_X0 fl_X1_214 rfl rfl dX1_runnerDoes_383 ?_
                            refine j_iload_n G 2 1 dX1_runnerDoes_386 rfl rfl ?_
                            refine j_aload_n G 1 0 dX1_runnerDoes_387 rfl rfl ?_
                            refine j_get G hW 2 1 38 (.ref (a0 + 35)) k0 (by decide) rfl (by decide) rfl lay_X1 fl_X1_18 rfl rfl dX1_runnerDoes_388 ?_
                            refine j_aload_n G 3 2 dX1_runnerDoes_391 rfl rfl ?_
                            refine j_get G hW 1 2 0 (.int (I a2 2)) k2 (by decide) rfl (by decide) rfl lay_X0 fl_X1_217 rfl rfl dX1_runnerDoes_392 ?_
                            obtain ⟨b53, h⟩ := h
                            refine j_iald G hW kk52 b53 dX1_runnerDoes_395 ?_
                            refine j_aload_n G 1 0 dX1_runnerDoes_396 rfl rfl ?_
                            refine j_get G hW 2 1 38 (.ref (a0 + 35)) k0 (by decide) rfl (by decide) rfl lay_X1 fl_X1_18 rfl rfl dX1_runnerDoes_397 ?_
                            refine j_aload_n G 3 2 dX1_runnerDoes_400 rfl rfl ?_
                            refine j_get G hW 1 3 0 (.int (I a2 3)) k2 (by decide) rfl (by decide) rfl lay_X0 fl_X1_220 rfl rfl dX1_runnerDoes_401 ?_
                            obtain ⟨b54, h⟩ := h
                            refine j_iald G hW kk52 b54 dX1_runnerDoes_404 ?_
                            refine j_ci (rn_N G (n := 3) (As := [.int x1, .int (I (a0 + 35) (ix (I a2 2))), .int (I (a0 + 35) (ix (I a2 3)))]) (rest := [.int (I a2 1), .ref (a0 + 35)]) (c_X9_reckon K hW l x1 (I (a0 + 35) (ix (I a2 2))) (I (a0 + 35) (ix (I a2 3))) I J B _ h) (List.mem_of_getElem? (i := 7) rfl) st_X9_reckon in_X9 co_X9_reckon (by decide +kernel) rfl rfl (by decide) (by decide) rfl rfl (Nat.le_of_ble_eq_true rfl) dX1_runnerDoes_405) (fun r55 _ h => ?_)
                            obtain ⟨b56, h⟩ := h
                            refine j_iast G hW kk52 b56 dX1_runnerDoes_408 ?_
                            refine j_mI (fun I57 eI57 => ?_)
                            have h := h I57 eI57
                            refine j_aload_n G 0 3 dX1_runnerDoes_409 rfl rfl ?_
                            refine j_get G hW 6 1 0 (.int (I57 (a0 + 57) 1)) kk2 (by decide) rfl (by decide) rfl lay_X5 fl_X1_170 rfl rfl dX1_runnerDoes_410 ?_
                            refine j_iconst G (1 : Int32) dX1_runnerDoes_413 (by decide) ?_
                            refine j_iadd G dX1_runnerDoes_414 ?_
                            exact j_reti G I57 rfl dX1_runnerDoes_415 h rfl
                          · skip
                            by_cases c71 : x1 = (4 : Int32)
                            · refine j_tableIn G 378 dX1_runnerDoes_8 (by rw [c71]; decide) (by rw [c71]; decide) (by rw [c71] <;> rfl) (by decide) ?_
                              refine j_aload_n G 1 0 dX1_runnerDoes_378 rfl rfl ?_
                              have kk52 : kG K (a0 + 35) = (20, 8) := wk_3_35 hW k0
                              refine j_get G hW 2 1 38 (.ref (a0 + 35)) k0 (by decide) rfl (by decide) rfl lay_X1 fl_X1_18 rfl rfl dX1_runnerDoes_379 ?_
                              refine j_aload_n G 3 2 dX1_runnerDoes_382 rfl rfl ?_
                              refine j_get G hW 1 1 0 (.int (I a2 1)) k2 (by decide) rfl (by decide) rfl lay_X0 fl_X1_214 rfl rfl dX1_runnerDoes_383 ?_
                              refine j_iload_n G 2 1 dX1_runnerDoes_386 rfl rfl ?_
                              refine j_aload_n G 1 0 dX1_runnerDoes_387 rfl rfl ?_
                              refine j_get G hW 2 1 38 (.ref (a0 + 35)) k0 (by decide) rfl (by decide) rfl lay_X1 fl_X1_18 rfl rfl dX1_runnerDoes_388 ?_
                              refine j_aload_n G 3 2 dX1_runnerDoes_391 rfl rfl ?_
                              refine j_get G hW 1 2 0 (.int (I a2 2)) k2 (by decide) rfl (by decide) rfl lay_X0 fl_X1_217 rfl rfl dX1_runnerDoes_392 ?_
                              obtain ⟨b53, h⟩ := h
                              refine j_iald G hW kk52 b53 dX1_runnerDoes_395 ?_
                              refine j_aload_n G 1 0 dX1_runnerDoes_396 rfl rfl ?_
                              refine j_get G hW 2 1 38 (.ref (a0 + 35)) k0 (by decide) rfl (by decide) rfl lay_X1 fl_X1_18 rfl rfl dX1_runnerDoes_397 ?_
                              refine j_aload_n G 3 2 dX1_runnerDoes_400 rfl rfl ?_
                              refine j_get G hW 1 3 0 (.int (I a2 3)) k2 (by decide) rfl (by decide) rfl lay_X0 fl_X1_220 rfl rfl dX1_runnerDoes_401 ?_
                              obtain ⟨b54, h⟩ := h
                              refine j_iald G hW kk52 b54 dX1_runnerDoes_404 ?_
                              refine j_ci (rn_N G (n := 3) (As := [.int x1, .int (I (a0 + 35) (ix (I a2 2))), .int (I (a0 + 35) (ix (I a2 3)))]) (rest := [.int (I a2 1), .ref (a0 + 35)]) (c_X9_reckon K hW l x1 (I (a0 + 35) (ix (I a2 2))) (I (a0 + 35) (ix (I a2 3))) I J B _ h) (List.mem_of_getElem? (i := 7) rfl) st_X9_reckon in_X9 co_X9_reckon (by decide +kernel) rfl rfl (by decide) (by decide) rfl rfl (Nat.le_of_ble_eq_true rfl) dX1_runnerDoes_405) (fun r55 _ h => ?_)
                              obtain ⟨b56, h⟩ := h
                              refine j_iast G hW kk52 b56 dX1_runnerDoes_408 ?_
                              refine j_mI (fun I57 eI57 => ?_)
                              have h := h I57 eI57
                              refine j_aload_n G 0 3 dX1_runnerDoes_409 rfl rfl ?_
                              refine j_get G hW 6 1 0 (.int (I57 (a0 + 57) 1)) kk2 (by decide) rfl (by decide) rfl lay_X5 fl_X1_170 rfl rfl dX1_runnerDoes_410 ?_
                              refine j_iconst G (1 : Int32) dX1_runnerDoes_413 (by decide) ?_
                              refine j_iadd G dX1_runnerDoes_414 ?_
                              exact j_reti G I57 rfl dX1_runnerDoes_415 h rfl
                            · skip
                              by_cases c72 : x1 = (5 : Int32)
                              · refine j_tableIn G 378 dX1_runnerDoes_8 (by rw [c72]; decide) (by rw [c72]; decide) (by rw [c72] <;> rfl) (by decide) ?_
                                refine j_aload_n G 1 0 dX1_runnerDoes_378 rfl rfl ?_
                                have kk52 : kG K (a0 + 35) = (20, 8) := wk_3_35 hW k0
                                refine j_get G hW 2 1 38 (.ref (a0 + 35)) k0 (by decide) rfl (by decide) rfl lay_X1 fl_X1_18 rfl rfl dX1_runnerDoes_379 ?_
                                refine j_aload_n G 3 2 dX1_runnerDoes_382 rfl rfl ?_
                                refine j_get G hW 1 1 0 (.int (I a2 1)) k2 (by decide) rfl (by decide) rfl lay_X0 fl_X1_214 rfl rfl dX1_runnerDoes_383 ?_
                                refine j_iload_n G 2 1 dX1_runnerDoes_386 rfl rfl ?_
                                refine j_aload_n G 1 0 dX1_runnerDoes_387 rfl rfl ?_
                                refine j_get G hW 2 1 38 (.ref (a0 + 35)) k0 (by decide) rfl (by decide) rfl lay_X1 fl_X1_18 rfl rfl dX1_runnerDoes_388 ?_
                                refine j_aload_n G 3 2 dX1_runnerDoes_391 rfl rfl ?_
                                refine j_get G hW 1 2 0 (.int (I a2 2)) k2 (by decide) rfl (by decide) rfl lay_X0 fl_X1_217 rfl rfl dX1_runnerDoes_392 ?_
                                obtain ⟨b53, h⟩ := h
                                refine j_iald G hW kk52 b53 dX1_runnerDoes_395 ?_
                                refine j_aload_n G 1 0 dX1_runnerDoes_396 rfl rfl ?_
                                refine j_get G hW 2 1 38 (.ref (a0 + 35)) k0 (by decide) rfl (by decide) rfl lay_X1 fl_X1_18 rfl rfl dX1_runnerDoes_397 ?_
                                refine j_aload_n G 3 2 dX1_runnerDoes_400 rfl rfl ?_
                                refine j_get G hW 1 3 0 (.int (I a2 3)) k2 (by decide) rfl (by decide) rfl lay_X0 fl_X1_220 rfl rfl dX1_runnerDoes_401 ?_
                                obtain ⟨b54, h⟩ := h
                                refine j_iald G hW kk52 b54 dX1_runnerDoes_404 ?_
                                refine j_ci (rn_N G (n := 3) (As := [.int x1, .int (I (a0 + 35) (ix (I a2 2))), .int (I (a0 + 35) (ix (I a2 3)))]) (rest := [.int (I a2 1), .ref (a0 + 35)]) (c_X9_reckon K hW l x1 (I (a0 + 35) (ix (I a2 2))) (I (a0 + 35) (ix (I a2 3))) I J B _ h) (List.mem_of_getElem? (i := 7) rfl) st_X9_reckon in_X9 co_X9_reckon (by decide +kernel) rfl rfl (by decide) (by decide) rfl rfl (Nat.le_of_ble_eq_true rfl) dX1_runnerDoes_405) (fun r55 _ h => ?_)
                                obtain ⟨b56, h⟩ := h
                                refine j_iast G hW kk52 b56 dX1_runnerDoes_408 ?_
                                refine j_mI (fun I57 eI57 => ?_)
                                have h := h I57 eI57
                                refine j_aload_n G 0 3 dX1_runnerDoes_409 rfl rfl ?_
                                refine j_get G hW 6 1 0 (.int (I57 (a0 + 57) 1)) kk2 (by decide) rfl (by decide) rfl lay_X5 fl_X1_170 rfl rfl dX1_runnerDoes_410 ?_
                                refine j_iconst G (1 : Int32) dX1_runnerDoes_413 (by decide) ?_
                                refine j_iadd G dX1_runnerDoes_414 ?_
                                exact j_reti G I57 rfl dX1_runnerDoes_415 h rfl
                              · skip
                                by_cases c73 : x1 = (7 : Int32)
                                · refine j_tableIn G 378 dX1_runnerDoes_8 (by rw [c73]; decide) (by rw [c73]; decide) (by rw [c73] <;> rfl) (by decide) ?_
                                  refine j_aload_n G 1 0 dX1_runnerDoes_378 rfl rfl ?_
                                  have kk52 : kG K (a0 + 35) = (20, 8) := wk_3_35 hW k0
                                  refine j_get G hW 2 1 38 (.ref (a0 + 35)) k0 (by decide) rfl (by decide) rfl lay_X1 fl_X1_18 rfl rfl dX1_runnerDoes_379 ?_
                                  refine j_aload_n G 3 2 dX1_runnerDoes_382 rfl rfl ?_
                                  refine j_get G hW 1 1 0 (.int (I a2 1)) k2 (by decide) rfl (by decide) rfl lay_X0 fl_X1_214 rfl rfl dX1_runnerDoes_383 ?_
                                  refine j_iload_n G 2 1 dX1_runnerDoes_386 rfl rfl ?_
                                  refine j_aload_n G 1 0 dX1_runnerDoes_387 rfl rfl ?_
                                  refine j_get G hW 2 1 38 (.ref (a0 + 35)) k0 (by decide) rfl (by decide) rfl lay_X1 fl_X1_18 rfl rfl dX1_runnerDoes_388 ?_
                                  refine j_aload_n G 3 2 dX1_runnerDoes_391 rfl rfl ?_
                                  refine j_get G hW 1 2 0 (.int (I a2 2)) k2 (by decide) rfl (by decide) rfl lay_X0 fl_X1_217 rfl rfl dX1_runnerDoes_392 ?_
                                  obtain ⟨b53, h⟩ := h
                                  refine j_iald G hW kk52 b53 dX1_runnerDoes_395 ?_
                                  refine j_aload_n G 1 0 dX1_runnerDoes_396 rfl rfl ?_
                                  refine j_get G hW 2 1 38 (.ref (a0 + 35)) k0 (by decide) rfl (by decide) rfl lay_X1 fl_X1_18 rfl rfl dX1_runnerDoes_397 ?_
                                  refine j_aload_n G 3 2 dX1_runnerDoes_400 rfl rfl ?_
                                  refine j_get G hW 1 3 0 (.int (I a2 3)) k2 (by decide) rfl (by decide) rfl lay_X0 fl_X1_220 rfl rfl dX1_runnerDoes_401 ?_
                                  obtain ⟨b54, h⟩ := h
                                  refine j_iald G hW kk52 b54 dX1_runnerDoes_404 ?_
                                  refine j_ci (rn_N G (n := 3) (As := [.int x1, .int (I (a0 + 35) (ix (I a2 2))), .int (I (a0 + 35) (ix (I a2 3)))]) (rest := [.int (I a2 1), .ref (a0 + 35)]) (c_X9_reckon K hW l x1 (I (a0 + 35) (ix (I a2 2))) (I (a0 + 35) (ix (I a2 3))) I J B _ h) (List.mem_of_getElem? (i := 7) rfl) st_X9_reckon in_X9 co_X9_reckon (by decide +kernel) rfl rfl (by decide) (by decide) rfl rfl (Nat.le_of_ble_eq_true rfl) dX1_runnerDoes_405) (fun r55 _ h => ?_)
                                  obtain ⟨b56, h⟩ := h
                                  refine j_iast G hW kk52 b56 dX1_runnerDoes_408 ?_
                                  refine j_mI (fun I57 eI57 => ?_)
                                  have h := h I57 eI57
                                  refine j_aload_n G 0 3 dX1_runnerDoes_409 rfl rfl ?_
                                  refine j_get G hW 6 1 0 (.int (I57 (a0 + 57) 1)) kk2 (by decide) rfl (by decide) rfl lay_X5 fl_X1_170 rfl rfl dX1_runnerDoes_410 ?_
                                  refine j_iconst G (1 : Int32) dX1_runnerDoes_413 (by decide) ?_
                                  refine j_iadd G dX1_runnerDoes_414 ?_
                                  exact j_reti G I57 rfl dX1_runnerDoes_415 h rfl
                                · skip
                                  by_cases c74 : x1 = (12 : Int32)
                                  · refine j_tableIn G 378 dX1_runnerDoes_8 (by rw [c74]; decide) (by rw [c74]; decide) (by rw [c74] <;> rfl) (by decide) ?_
                                    refine j_aload_n G 1 0 dX1_runnerDoes_378 rfl rfl ?_
                                    have kk52 : kG K (a0 + 35) = (20, 8) := wk_3_35 hW k0
                                    refine j_get G hW 2 1 38 (.ref (a0 + 35)) k0 (by decide) rfl (by decide) rfl lay_X1 fl_X1_18 rfl rfl dX1_runnerDoes_379 ?_
                                    refine j_aload_n G 3 2 dX1_runnerDoes_382 rfl rfl ?_
                                    refine j_get G hW 1 1 0 (.int (I a2 1)) k2 (by decide) rfl (by decide) rfl lay_X0 fl_X1_214 rfl rfl dX1_runnerDoes_383 ?_
                                    refine j_iload_n G 2 1 dX1_runnerDoes_386 rfl rfl ?_
                                    refine j_aload_n G 1 0 dX1_runnerDoes_387 rfl rfl ?_
                                    refine j_get G hW 2 1 38 (.ref (a0 + 35)) k0 (by decide) rfl (by decide) rfl lay_X1 fl_X1_18 rfl rfl dX1_runnerDoes_388 ?_
                                    refine j_aload_n G 3 2 dX1_runnerDoes_391 rfl rfl ?_
                                    refine j_get G hW 1 2 0 (.int (I a2 2)) k2 (by decide) rfl (by decide) rfl lay_X0 fl_X1_217 rfl rfl dX1_runnerDoes_392 ?_
                                    obtain ⟨b53, h⟩ := h
                                    refine j_iald G hW kk52 b53 dX1_runnerDoes_395 ?_
                                    refine j_aload_n G 1 0 dX1_runnerDoes_396 rfl rfl ?_
                                    refine j_get G hW 2 1 38 (.ref (a0 + 35)) k0 (by decide) rfl (by decide) rfl lay_X1 fl_X1_18 rfl rfl dX1_runnerDoes_397 ?_
                                    refine j_aload_n G 3 2 dX1_runnerDoes_400 rfl rfl ?_
                                    refine j_get G hW 1 3 0 (.int (I a2 3)) k2 (by decide) rfl (by decide) rfl lay_X0 fl_X1_220 rfl rfl dX1_runnerDoes_401 ?_
                                    obtain ⟨b54, h⟩ := h
                                    refine j_iald G hW kk52 b54 dX1_runnerDoes_404 ?_
                                    refine j_ci (rn_N G (n := 3) (As := [.int x1, .int (I (a0 + 35) (ix (I a2 2))), .int (I (a0 + 35) (ix (I a2 3)))]) (rest := [.int (I a2 1), .ref (a0 + 35)]) (c_X9_reckon K hW l x1 (I (a0 + 35) (ix (I a2 2))) (I (a0 + 35) (ix (I a2 3))) I J B _ h) (List.mem_of_getElem? (i := 7) rfl) st_X9_reckon in_X9 co_X9_reckon (by decide +kernel) rfl rfl (by decide) (by decide) rfl rfl (Nat.le_of_ble_eq_true rfl) dX1_runnerDoes_405) (fun r55 _ h => ?_)
                                    obtain ⟨b56, h⟩ := h
                                    refine j_iast G hW kk52 b56 dX1_runnerDoes_408 ?_
                                    refine j_mI (fun I57 eI57 => ?_)
                                    have h := h I57 eI57
                                    refine j_aload_n G 0 3 dX1_runnerDoes_409 rfl rfl ?_
                                    refine j_get G hW 6 1 0 (.int (I57 (a0 + 57) 1)) kk2 (by decide) rfl (by decide) rfl lay_X5 fl_X1_170 rfl rfl dX1_runnerDoes_410 ?_
                                    refine j_iconst G (1 : Int32) dX1_runnerDoes_413 (by decide) ?_
                                    refine j_iadd G dX1_runnerDoes_414 ?_
                                    exact j_reti G I57 rfl dX1_runnerDoes_415 h rfl
                                  · skip
                                    by_cases c75 : x1 = (15 : Int32)
                                    · refine j_tableIn G 378 dX1_runnerDoes_8 (by rw [c75]; decide) (by rw [c75]; decide) (by rw [c75] <;> rfl) (by decide) ?_
                                      refine j_aload_n G 1 0 dX1_runnerDoes_378 rfl rfl ?_
                                      have kk52 : kG K (a0 + 35) = (20, 8) := wk_3_35 hW k0
                                      refine j_get G hW 2 1 38 (.ref (a0 + 35)) k0 (by decide) rfl (by decide) rfl lay_X1 fl_X1_18 rfl rfl dX1_runnerDoes_379 ?_
                                      refine j_aload_n G 3 2 dX1_runnerDoes_382 rfl rfl ?_
                                      refine j_get G hW 1 1 0 (.int (I a2 1)) k2 (by decide) rfl (by decide) rfl lay_X0 fl_X1_214 rfl rfl dX1_runnerDoes_383 ?_
                                      refine j_iload_n G 2 1 dX1_runnerDoes_386 rfl rfl ?_
                                      refine j_aload_n G 1 0 dX1_runnerDoes_387 rfl rfl ?_
                                      refine j_get G hW 2 1 38 (.ref (a0 + 35)) k0 (by decide) rfl (by decide) rfl lay_X1 fl_X1_18 rfl rfl dX1_runnerDoes_388 ?_
                                      refine j_aload_n G 3 2 dX1_runnerDoes_391 rfl rfl ?_
                                      refine j_get G hW 1 2 0 (.int (I a2 2)) k2 (by decide) rfl (by decide) rfl lay_X0 fl_X1_217 rfl rfl dX1_runnerDoes_392 ?_
                                      obtain ⟨b53, h⟩ := h
                                      refine j_iald G hW kk52 b53 dX1_runnerDoes_395 ?_
                                      refine j_aload_n G 1 0 dX1_runnerDoes_396 rfl rfl ?_
                                      refine j_get G hW 2 1 38 (.ref (a0 + 35)) k0 (by decide) rfl (by decide) rfl lay_X1 fl_X1_18 rfl rfl dX1_runnerDoes_397 ?_
                                      refine j_aload_n G 3 2 dX1_runnerDoes_400 rfl rfl ?_
                                      refine j_get G hW 1 3 0 (.int (I a2 3)) k2 (by decide) rfl (by decide) rfl lay_X0 fl_X1_220 rfl rfl dX1_runnerDoes_401 ?_
                                      obtain ⟨b54, h⟩ := h
                                      refine j_iald G hW kk52 b54 dX1_runnerDoes_404 ?_
                                      refine j_ci (rn_N G (n := 3) (As := [.int x1, .int (I (a0 + 35) (ix (I a2 2))), .int (I (a0 + 35) (ix (I a2 3)))]) (rest := [.int (I a2 1), .ref (a0 + 35)]) (c_X9_reckon K hW l x1 (I (a0 + 35) (ix (I a2 2))) (I (a0 + 35) (ix (I a2 3))) I J B _ h) (List.mem_of_getElem? (i := 7) rfl) st_X9_reckon in_X9 co_X9_reckon (by decide +kernel) rfl rfl (by decide) (by decide) rfl rfl (Nat.le_of_ble_eq_true rfl) dX1_runnerDoes_405) (fun r55 _ h => ?_)
                                      obtain ⟨b56, h⟩ := h
                                      refine j_iast G hW kk52 b56 dX1_runnerDoes_408 ?_
                                      refine j_mI (fun I57 eI57 => ?_)
                                      have h := h I57 eI57
                                      refine j_aload_n G 0 3 dX1_runnerDoes_409 rfl rfl ?_
                                      refine j_get G hW 6 1 0 (.int (I57 (a0 + 57) 1)) kk2 (by decide) rfl (by decide) rfl lay_X5 fl_X1_170 rfl rfl dX1_runnerDoes_410 ?_
                                      refine j_iconst G (1 : Int32) dX1_runnerDoes_413 (by decide) ?_
                                      refine j_iadd G dX1_runnerDoes_414 ?_
                                      exact j_reti G I57 rfl dX1_runnerDoes_415 h rfl
                                    · skip
                                      by_cases c76 : x1 = (17 : Int32)
                                      · refine j_tableIn G 378 dX1_runnerDoes_8 (by rw [c76]; decide) (by rw [c76]; decide) (by rw [c76] <;> rfl) (by decide) ?_
                                        refine j_aload_n G 1 0 dX1_runnerDoes_378 rfl rfl ?_
                                        have kk52 : kG K (a0 + 35) = (20, 8) := wk_3_35 hW k0
                                        refine j_get G hW 2 1 38 (.ref (a0 + 35)) k0 (by decide) rfl (by decide) rfl lay_X1 fl_X1_18 rfl rfl dX1_runnerDoes_379 ?_
                                        refine j_aload_n G 3 2 dX1_runnerDoes_382 rfl rfl ?_
                                        refine j_get G hW 1 1 0 (.int (I a2 1)) k2 (by decide) rfl (by decide) rfl lay_X0 fl_X1_214 rfl rfl dX1_runnerDoes_383 ?_
                                        refine j_iload_n G 2 1 dX1_runnerDoes_386 rfl rfl ?_
                                        refine j_aload_n G 1 0 dX1_runnerDoes_387 rfl rfl ?_
                                        refine j_get G hW 2 1 38 (.ref (a0 + 35)) k0 (by decide) rfl (by decide) rfl lay_X1 fl_X1_18 rfl rfl dX1_runnerDoes_388 ?_
                                        refine j_aload_n G 3 2 dX1_runnerDoes_391 rfl rfl ?_
                                        refine j_get G hW 1 2 0 (.int (I a2 2)) k2 (by decide) rfl (by decide) rfl lay_X0 fl_X1_217 rfl rfl dX1_runnerDoes_392 ?_
                                        obtain ⟨b53, h⟩ := h
                                        refine j_iald G hW kk52 b53 dX1_runnerDoes_395 ?_
                                        refine j_aload_n G 1 0 dX1_runnerDoes_396 rfl rfl ?_
                                        refine j_get G hW 2 1 38 (.ref (a0 + 35)) k0 (by decide) rfl (by decide) rfl lay_X1 fl_X1_18 rfl rfl dX1_runnerDoes_397 ?_
                                        refine j_aload_n G 3 2 dX1_runnerDoes_400 rfl rfl ?_
                                        refine j_get G hW 1 3 0 (.int (I a2 3)) k2 (by decide) rfl (by decide) rfl lay_X0 fl_X1_220 rfl rfl dX1_runnerDoes_401 ?_
                                        obtain ⟨b54, h⟩ := h
                                        refine j_iald G hW kk52 b54 dX1_runnerDoes_404 ?_
                                        refine j_ci (rn_N G (n := 3) (As := [.int x1, .int (I (a0 + 35) (ix (I a2 2))), .int (I (a0 + 35) (ix (I a2 3)))]) (rest := [.int (I a2 1), .ref (a0 + 35)]) (c_X9_reckon K hW l x1 (I (a0 + 35) (ix (I a2 2))) (I (a0 + 35) (ix (I a2 3))) I J B _ h) (List.mem_of_getElem? (i := 7) rfl) st_X9_reckon in_X9 co_X9_reckon (by decide +kernel) rfl rfl (by decide) (by decide) rfl rfl (Nat.le_of_ble_eq_true rfl) dX1_runnerDoes_405) (fun r55 _ h => ?_)
                                        obtain ⟨b56, h⟩ := h
                                        refine j_iast G hW kk52 b56 dX1_runnerDoes_408 ?_
                                        refine j_mI (fun I57 eI57 => ?_)
                                        have h := h I57 eI57
                                        refine j_aload_n G 0 3 dX1_runnerDoes_409 rfl rfl ?_
                                        refine j_get G hW 6 1 0 (.int (I57 (a0 + 57) 1)) kk2 (by decide) rfl (by decide) rfl lay_X5 fl_X1_170 rfl rfl dX1_runnerDoes_410 ?_
                                        refine j_iconst G (1 : Int32) dX1_runnerDoes_413 (by decide) ?_
                                        refine j_iadd G dX1_runnerDoes_414 ?_
                                        exact j_reti G I57 rfl dX1_runnerDoes_415 h rfl
                                      · skip
                                        have nc58 := sw_ne (n := 0) rfl c58
                                        have nc68 := sw_ne (n := 1) rfl c68
                                        have nc69 := sw_ne (n := 2) rfl c69
                                        have nc70 := sw_ne (n := 3) rfl c70
                                        have nc71 := sw_ne (n := 4) rfl c71
                                        have nc72 := sw_ne (n := 5) rfl c72
                                        have nc59 := sw_ne (n := 6) rfl c59
                                        have nc73 := sw_ne (n := 7) rfl c73
                                        have nc60 := sw_ne (n := 8) rfl c60
                                        have nc61 := sw_ne (n := 9) rfl c61
                                        have nc62 := sw_ne (n := 10) rfl c62
                                        have nc63 := sw_ne (n := 11) rfl c63
                                        have nc74 := sw_ne (n := 12) rfl c74
                                        have nc64 := sw_ne (n := 13) rfl c64
                                        have nc65 := sw_ne (n := 14) rfl c65
                                        have nc75 := sw_ne (n := 15) rfl c75
                                        have nc66 := sw_ne (n := 16) rfl c66
                                        have nc76 := sw_ne (n := 17) rfl c76
                                        have nc67 := sw_ne (n := 18) rfl c67
                                        refine j_tableOut G 378 dX1_runnerDoes_8 (by omega) (by decide) ?_
                                        refine j_aload_n G 1 0 dX1_runnerDoes_378 rfl rfl ?_
                                        have kk52 : kG K (a0 + 35) = (20, 8) := wk_3_35 hW k0
                                        refine j_get G hW 2 1 38 (.ref (a0 + 35)) k0 (by decide) rfl (by decide) rfl lay_X1 fl_X1_18 rfl rfl dX1_runnerDoes_379 ?_
                                        refine j_aload_n G 3 2 dX1_runnerDoes_382 rfl rfl ?_
                                        refine j_get G hW 1 1 0 (.int (I a2 1)) k2 (by decide) rfl (by decide) rfl lay_X0 fl_X1_214 rfl rfl dX1_runnerDoes_383 ?_
                                        refine j_iload_n G 2 1 dX1_runnerDoes_386 rfl rfl ?_
                                        refine j_aload_n G 1 0 dX1_runnerDoes_387 rfl rfl ?_
                                        refine j_get G hW 2 1 38 (.ref (a0 + 35)) k0 (by decide) rfl (by decide) rfl lay_X1 fl_X1_18 rfl rfl dX1_runnerDoes_388 ?_
                                        refine j_aload_n G 3 2 dX1_runnerDoes_391 rfl rfl ?_
                                        refine j_get G hW 1 2 0 (.int (I a2 2)) k2 (by decide) rfl (by decide) rfl lay_X0 fl_X1_217 rfl rfl dX1_runnerDoes_392 ?_
                                        obtain ⟨b53, h⟩ := h
                                        refine j_iald G hW kk52 b53 dX1_runnerDoes_395 ?_
                                        refine j_aload_n G 1 0 dX1_runnerDoes_396 rfl rfl ?_
                                        refine j_get G hW 2 1 38 (.ref (a0 + 35)) k0 (by decide) rfl (by decide) rfl lay_X1 fl_X1_18 rfl rfl dX1_runnerDoes_397 ?_
                                        refine j_aload_n G 3 2 dX1_runnerDoes_400 rfl rfl ?_
                                        refine j_get G hW 1 3 0 (.int (I a2 3)) k2 (by decide) rfl (by decide) rfl lay_X0 fl_X1_220 rfl rfl dX1_runnerDoes_401 ?_
                                        obtain ⟨b54, h⟩ := h
                                        refine j_iald G hW kk52 b54 dX1_runnerDoes_404 ?_
                                        refine j_ci (rn_N G (n := 3) (As := [.int x1, .int (I (a0 + 35) (ix (I a2 2))), .int (I (a0 + 35) (ix (I a2 3)))]) (rest := [.int (I a2 1), .ref (a0 + 35)]) (c_X9_reckon K hW l x1 (I (a0 + 35) (ix (I a2 2))) (I (a0 + 35) (ix (I a2 3))) I J B _ h) (List.mem_of_getElem? (i := 7) rfl) st_X9_reckon in_X9 co_X9_reckon (by decide +kernel) rfl rfl (by decide) (by decide) rfl rfl (Nat.le_of_ble_eq_true rfl) dX1_runnerDoes_405) (fun r55 _ h => ?_)
                                        obtain ⟨b56, h⟩ := h
                                        refine j_iast G hW kk52 b56 dX1_runnerDoes_408 ?_
                                        refine j_mI (fun I57 eI57 => ?_)
                                        have h := h I57 eI57
                                        refine j_aload_n G 0 3 dX1_runnerDoes_409 rfl rfl ?_
                                        refine j_get G hW 6 1 0 (.int (I57 (a0 + 57) 1)) kk2 (by decide) rfl (by decide) rfl lay_X5 fl_X1_170 rfl rfl dX1_runnerDoes_410 ?_
                                        refine j_iconst G (1 : Int32) dX1_runnerDoes_413 (by decide) ?_
                                        refine j_iadd G dX1_runnerDoes_414 ?_
                                        exact j_reti G I57 rfl dX1_runnerDoes_415 h rfl
abbrev rm_X1_runnerTries : Room := { frames := 3, cells := 0, slots := 0, locals := 66 }
def w_X1_runnerTries_p99 (a0 : Nat) (x4 : Int32)  (I : MI)  (Q : MI → Prop) : Prop :=
((x4 = 0 → (bln ((I a0 15) ||| (1 : Int32)) ∧
(∀ I18, I18 = ui I a0 15 ((I a0 15) ||| (1 : Int32)) →
Q I18))) ∧
(¬ x4 = 0 → ((¬ x4 = (7 : Int32) → (bln ((I a0 15) ||| (0 : Int32)) ∧
(∀ I21, I21 = ui I a0 15 ((I a0 15) ||| (0 : Int32)) →
Q I21))) ∧
(x4 = (7 : Int32) → (bln ((I a0 15) ||| (1 : Int32)) ∧
(∀ I23, I23 = ui I a0 15 ((I a0 15) ||| (1 : Int32)) →
Q I23))))))
set_option maxHeartbeats 4000000 in
set_option maxRecDepth 100000 in
theorem m_X1_runnerTries_p99 {K : Kx} {l : Launch} {m : MethodId} {H0 : Heap} {Q : MI → Prop} {w : HW} {J : MJ} {B : MR} (G : Gd l rm_X1_runnerTries K m RX1 cX1_runnerTries 5 H0 none (va_Qv (S := MI) Q (fun u t => HP K (u, J, B) t.heap) (AA K)) w) (hW : WFK K) (a0 : Nat) (x4 : Int32)  (ka0 : (kG K a0).1 = 3)  (I : MI)   (h : w_X1_runnerTries_p99 a0 x4 I Q) : Jg K m 5 H0 w 99 [(0, .ref a0), (4, .int x4)] [] (I, J, B) := by
  unfold w_X1_runnerTries_p99 at h
  refine j_aload_n G 0 0 dX1_runnerTries_99 rfl rfl ?_
  refine j_dup G rfl dX1_runnerTries_100 ?_
  refine j_get G hW 2 15 0 (.int (I a0 15)) ka0 (by decide) rfl (by decide) rfl lay_X1 fl_X1_113 rfl rfl dX1_runnerTries_101 ?_
  refine j_iload G 1 dX1_runnerTries_104 rfl ?_
  refine j_if_eq G 116 dX1_runnerTries_106 (by decide) (fun c16 => ?_) (fun c16 => ?_)
  · have h := h.1 c16
    refine j_iconst G (1 : Int32) dX1_runnerTries_116 (by decide) ?_
    refine j_goto G 121 dX1_runnerTries_117 (by decide) ?_
    refine j_ior G dX1_runnerTries_121 ?_
    obtain ⟨q17, h⟩ := h
    refine j_put G hW 2 15 tyX1 (tyX1 15) tyX1_ok nmX1 ka0 (by decide) rfl (by decide) rfl lay_X1 fl_X1_113 rfl rfl (tyX1_ok 15 (by decide)) (bln_n q17) (bln_f q17) dX1_runnerTries_122 ?_
    refine j_mI (fun I18 eI18 => ?_)
    have h := h I18 eI18
    exact j_retv G I18 dX1_runnerTries_125 h rfl
  · have h := h.2 c16
    refine j_iload G 1 dX1_runnerTries_109 rfl ?_
    refine j_bipush G (7 : Int32) dX1_runnerTries_111 (by decide) ?_
    refine j_icmp_ne G 120 dX1_runnerTries_113 (by decide) (fun c19 => ?_) (fun c19 => ?_)
    · have h := h.1 c19
      refine j_iconst G (0 : Int32) dX1_runnerTries_120 (by decide) ?_
      refine j_ior G dX1_runnerTries_121 ?_
      obtain ⟨q20, h⟩ := h
      refine j_put G hW 2 15 tyX1 (tyX1 15) tyX1_ok nmX1 ka0 (by decide) rfl (by decide) rfl lay_X1 fl_X1_113 rfl rfl (tyX1_ok 15 (by decide)) (bln_n q20) (bln_f q20) dX1_runnerTries_122 ?_
      refine j_mI (fun I21 eI21 => ?_)
      have h := h I21 eI21
      exact j_retv G I21 dX1_runnerTries_125 h rfl
    · have h := h.2 c19
      refine j_iconst G (1 : Int32) dX1_runnerTries_116 (by decide) ?_
      refine j_goto G 121 dX1_runnerTries_117 (by decide) ?_
      refine j_ior G dX1_runnerTries_121 ?_
      obtain ⟨q22, h⟩ := h
      refine j_put G hW 2 15 tyX1 (tyX1 15) tyX1_ok nmX1 ka0 (by decide) rfl (by decide) rfl lay_X1 fl_X1_113 rfl rfl (tyX1_ok 15 (by decide)) (bln_n q22) (bln_f q22) dX1_runnerTries_122 ?_
      refine j_mI (fun I23 eI23 => ?_)
      have h := h I23 eI23
      exact j_retv G I23 dX1_runnerTries_125 h rfl
def w_X1_runnerTries (a0 : Nat) (I : MI) (Q : MI → Prop) : Prop :=
(w_X5_setReason (a0 + 57) (0 : Int32) I (fun I3 =>
(((I3 (a0 + 57) 4) = 0 → (w_X5_passWithoutDeeds (a0 + 57) (a0 + 1) I3 (fun I6 =>
(vp_in (I6 (a0 + 57) 1) 25 ∧
(w_X5_kindOfNext (a0 + 57) (a0 + 1) I6 (fun r10 =>
(w_X1_runnerWaitsFor a0 r10 (a0 + 10 + ix (I6 (a0 + 57) 1)) I6 (fun r11 I12 =>
(w_X5_setReason (a0 + 57) r11 I12 (fun I13 =>
((r11 < (5 : Int32) → ((¬ r11 = 0 → w_X1_runnerTries_p99 a0 r11 I13 Q) ∧
(r11 = 0 → (w_X1_runnerDoes a0 r10 (a0 + 10 + ix (I6 (a0 + 57) 1)) I13 (fun r24 I25 =>
(w_X5_finishDeed (a0 + 57) (a0 + 1) r24 I25 (fun I26 =>
w_X1_runnerTries_p99 a0 r11 I26 Q))))))) ∧
(¬ r11 < (5 : Int32) → (∀ I27, I27 = ui I13 a0 11 ((I13 a0 11) + (1 : Int32)) →
((¬ r11 = 0 → w_X1_runnerTries_p99 a0 r11 I27 Q) ∧
(r11 = 0 → (w_X1_runnerDoes a0 r10 (a0 + 10 + ix (I6 (a0 + 57) 1)) I27 (fun r29 I30 =>
(w_X5_finishDeed (a0 + 57) (a0 + 1) r29 I30 (fun I31 =>
w_X1_runnerTries_p99 a0 r11 I31 Q))))))))))))))))))) ∧
(¬ (I3 (a0 + 57) 4) = 0 → Q I3))))
set_option maxHeartbeats 4000000 in
set_option maxRecDepth 100000 in
theorem c_X1_runnerTries (K : Kx) (hW : WFK K) (l : Launch) (a0 : Nat) (k0 : (kG K a0).1 = 3) (I : MI) (J : MJ) (B : MR) (Q : MI → Prop) (h : w_X1_runnerTries a0 I Q) : Con K l yX1_runnerTries (wsT yX1_runnerTries cX1_runnerTries 5 none) rm_X1_runnerTries [.ref a0] (I, J, B) (va_Qv (S := MI) Q (fun u t => HP K (u, J, B) t.heap) (AA K)) := by
  refine Con.ofJ RX1 rfl (by decide) (Nat.le_of_ble_eq_true rfl) (fun m H0 w G => ?_)
  unfold w_X1_runnerTries at h
  show Jg K m 5 H0 w 0 [(0, .ref a0)] [] (I, J, B)
  refine j_aload_n G 0 0 dX1_runnerTries_0 rfl rfl ?_
  have kk1 : kG K (a0 + 38) = (26, 2) := wk_3_38 hW k0
  refine j_get G hW 2 4 41 (.ref (a0 + 38)) k0 (by decide) rfl (by decide) rfl lay_X1 fl_X1_33 rfl rfl dX1_runnerTries_1 ?_
  refine j_iconst G (0 : Int32) dX1_runnerTries_4 (by decide) ?_
  have kk2 : (kG K (a0 + 57)).1 = 7 := wk_a26 (i := (0 : Int32)) hW kk1 (vpc rfl) (ad1 (j := 0) (by decide) rfl)
  refine j_aald26 G hW (i := (0 : Int32)) (b := a0 + 57) kk1 (vpc rfl) (ad1 (j := 0) (by decide) rfl) dX1_runnerTries_5 ?_
  refine j_astore_n G 1 [(1, .ref (a0 + 57)), (0, .ref a0)] dX1_runnerTries_6 rfl (by decide) rfl ?_
  refine j_aload_n G 0 1 dX1_runnerTries_7 rfl rfl ?_
  refine j_iconst G (0 : Int32) dX1_runnerTries_8 (by decide) ?_
  refine j_cv (rn_V G hW (ci := 6) (n := 1) (As := [.int (0 : Int32)]) (rest := []) (c_X5_setReason K hW l (a0 + 57) (0 : Int32) kk2 I J B _ h) kk2 (by decide) rfl ml_X1_160 im_X5_setReason se_X5_setReason in_X5 co_X5_setReason rfl (by decide +kernel) rfl rfl (by decide) (by decide) rfl rfl (Nat.le_of_ble_eq_true rfl) dX1_runnerTries_9) (fun I3 h => ?_)
  refine j_aload_n G 0 1 dX1_runnerTries_12 rfl rfl ?_
  refine j_get G hW 6 4 0 (.int (I3 (a0 + 57) 4)) kk2 (by decide) rfl (by decide) rfl lay_X5 fl_X1_139 rfl rfl dX1_runnerTries_13 ?_
  refine j_if_eq G 20 dX1_runnerTries_16 (by decide) (fun c4 => ?_) (fun c4 => ?_)
  · have h := h.1 c4
    refine j_aload_n G 0 1 dX1_runnerTries_20 rfl rfl ?_
    refine j_aload_n G 1 0 dX1_runnerTries_21 rfl rfl ?_
    have kk5 : kG K (a0 + 1) = (4, 0) := wk_3_1 hW k0
    refine j_get G hW 2 0 4 (.ref (a0 + 1)) k0 (by decide) rfl (by decide) rfl lay_X1 fl_X1_12 rfl rfl dX1_runnerTries_22 ?_
    refine j_cv (rn_V G hW (ci := 6) (n := 1) (As := [.ref (a0 + 1)]) (rest := []) (c_X5_passWithoutDeeds K hW l (a0 + 57) (a0 + 1) kk2 (congrArg Prod.fst kk5) I3 J B _ h) kk2 (by decide) rfl ml_X1_163 im_X5_passWithoutDeeds se_X5_passWithoutDeeds in_X5 co_X5_passWithoutDeeds rfl (by decide +kernel) rfl rfl (by decide) (by decide) rfl rfl (Nat.le_of_ble_eq_true rfl) dX1_runnerTries_25) (fun I6 h => ?_)
    refine j_aload_n G 1 0 dX1_runnerTries_28 rfl rfl ?_
    refine j_get G hW 2 0 4 (.ref (a0 + 1)) k0 (by decide) rfl (by decide) rfl lay_X1 fl_X1_12 rfl rfl dX1_runnerTries_29 ?_
    have kk7 : kG K (a0 + 2) = (24, 25) := wk_4_1 hW (congrArg Prod.fst kk5)
    refine j_get G hW 3 0 4 (.ref (a0 + 2)) (congrArg Prod.fst kk5) (by decide) rfl (by decide) rfl lay_X2 fl_X1_166 rfl rfl dX1_runnerTries_32 ?_
    refine j_aload_n G 0 1 dX1_runnerTries_35 rfl rfl ?_
    refine j_get G hW 6 1 0 (.int (I6 (a0 + 57) 1)) kk2 (by decide) rfl (by decide) rfl lay_X5 fl_X1_170 rfl rfl dX1_runnerTries_36 ?_
    obtain ⟨b8, h⟩ := h
    have kk9 : (kG K (a0 + 10 + ix (I6 (a0 + 57) 1))).1 = 2 := wk_a24 (i := I6 (a0 + 57) 1) hW kk7 b8 (ad3 rfl)
    refine j_aald24 G hW (i := I6 (a0 + 57) 1) (b := a0 + 10 + ix (I6 (a0 + 57) 1)) kk7 b8 (ad3 rfl) dX1_runnerTries_39 ?_
    refine j_astore_n G 2 [(2, .ref (a0 + 10 + ix (I6 (a0 + 57) 1))), (1, .ref (a0 + 57)), (0, .ref a0)] dX1_runnerTries_40 rfl (by decide) rfl ?_
    refine j_aload_n G 1 1 dX1_runnerTries_41 rfl rfl ?_
    refine j_aload_n G 2 0 dX1_runnerTries_42 rfl rfl ?_
    refine j_get G hW 2 0 4 (.ref (a0 + 1)) k0 (by decide) rfl (by decide) rfl lay_X1 fl_X1_12 rfl rfl dX1_runnerTries_43 ?_
    refine j_ci (rn_V G hW (ci := 6) (n := 1) (As := [.ref (a0 + 1)]) (rest := []) (c_X5_kindOfNext K hW l (a0 + 57) (a0 + 1) kk2 (congrArg Prod.fst kk5) I6 J B _ h) kk2 (by decide) rfl ml_X1_173 im_X5_kindOfNext se_X5_kindOfNext in_X5 co_X5_kindOfNext rfl (by decide +kernel) rfl rfl (by decide) (by decide) rfl rfl (Nat.le_of_ble_eq_true rfl) dX1_runnerTries_46) (fun r10 _ h => ?_)
    refine j_istore_n G 3 [(3, .int r10), (2, .ref (a0 + 10 + ix (I6 (a0 + 57) 1))), (1, .ref (a0 + 57)), (0, .ref a0)] dX1_runnerTries_49 rfl (by decide) rfl ?_
    refine j_aload_n G 3 0 dX1_runnerTries_50 rfl rfl ?_
    refine j_iload_n G 0 3 dX1_runnerTries_51 rfl rfl ?_
    refine j_aload_n G 1 2 dX1_runnerTries_52 rfl rfl ?_
    refine j_ci (rn_V G hW (ci := 2) (n := 2) (As := [.int r10, .ref (a0 + 10 + ix (I6 (a0 + 57) 1))]) (rest := []) (c_X1_runnerWaitsFor K hW l a0 r10 (a0 + 10 + ix (I6 (a0 + 57) 1)) k0 kk9 I6 J B _ h) k0 (by decide) rfl ml_X1_177 im_X1_runnerWaitsFor se_X1_runnerWaitsFor in_X1 co_X1_runnerWaitsFor rfl (by decide +kernel) rfl rfl (by decide) (by decide) rfl rfl (Nat.le_of_ble_eq_true rfl) dX1_runnerTries_53) (fun r11 I12 h => ?_)
    refine j_istore G [(4, .int r11), (3, .int r10), (2, .ref (a0 + 10 + ix (I6 (a0 + 57) 1))), (1, .ref (a0 + 57)), (0, .ref a0)] dX1_runnerTries_56 (by decide) rfl ?_
    refine j_aload_n G 3 1 dX1_runnerTries_58 rfl rfl ?_
    refine j_iload G 0 dX1_runnerTries_59 rfl ?_
    refine j_cv (rn_V G hW (ci := 6) (n := 1) (As := [.int r11]) (rest := []) (c_X5_setReason K hW l (a0 + 57) r11 kk2 I12 J B _ h) kk2 (by decide) rfl ml_X1_160 im_X5_setReason se_X5_setReason in_X5 co_X5_setReason rfl (by decide +kernel) rfl rfl (by decide) (by decide) rfl rfl (Nat.le_of_ble_eq_true rfl) dX1_runnerTries_61) (fun I13 h => ?_)
    refine j_iload G 0 dX1_runnerTries_64 rfl ?_
    refine j_iconst G (5 : Int32) dX1_runnerTries_66 (by decide) ?_
    refine j_icmp_lt G 80 dX1_runnerTries_67 (by decide) (fun c14 => ?_) (fun c14 => ?_)
    · have h := h.1 c14
      refine j_iload G 0 dX1_runnerTries_80 rfl ?_
      refine j_if_ne G 99 dX1_runnerTries_82 (by decide) (fun c15 => ?_) (fun c15 => ?_)
      · have h := h.1 c15
        exact Jg.sub [4, 0] rfl (m_X1_runnerTries_p99 G hW a0 r11 k0 I13 h)
      · have h := h.2 c15
        refine j_aload_n G 3 1 dX1_runnerTries_85 rfl rfl ?_
        refine j_aload_n G 4 0 dX1_runnerTries_86 rfl rfl ?_
        refine j_get G hW 2 0 4 (.ref (a0 + 1)) k0 (by decide) rfl (by decide) rfl lay_X1 fl_X1_12 rfl rfl dX1_runnerTries_87 ?_
        refine j_aload_n G 4 0 dX1_runnerTries_90 rfl rfl ?_
        refine j_iload_n G 1 3 dX1_runnerTries_91 rfl rfl ?_
        refine j_aload_n G 2 2 dX1_runnerTries_92 rfl rfl ?_
        refine j_ci (rn_V G hW (ci := 2) (n := 2) (As := [.int r10, .ref (a0 + 10 + ix (I6 (a0 + 57) 1))]) (rest := [.ref (a0 + 1), .ref (a0 + 57)]) (c_X1_runnerDoes K hW l a0 r10 (a0 + 10 + ix (I6 (a0 + 57) 1)) k0 kk9 I13 J B _ h) k0 (by decide) rfl ml_X1_181 im_X1_runnerDoes se_X1_runnerDoes in_X1 co_X1_runnerDoes rfl (by decide +kernel) rfl rfl (by decide) (by decide) rfl rfl (Nat.le_of_ble_eq_true rfl) dX1_runnerTries_93) (fun r24 I25 h => ?_)
        refine j_cv (rn_V G hW (ci := 6) (n := 2) (As := [.ref (a0 + 1), .int r24]) (rest := []) (c_X5_finishDeed K hW l (a0 + 57) (a0 + 1) r24 kk2 (congrArg Prod.fst kk5) I25 J B _ h) kk2 (by decide) rfl ml_X1_184 im_X5_finishDeed se_X5_finishDeed in_X5 co_X5_finishDeed rfl (by decide +kernel) rfl rfl (by decide) (by decide) rfl rfl (Nat.le_of_ble_eq_true rfl) dX1_runnerTries_96) (fun I26 h => ?_)
        exact Jg.sub [4, 0] rfl (m_X1_runnerTries_p99 G hW a0 r11 k0 I26 h)
    · have h := h.2 c14
      refine j_aload_n G 4 0 dX1_runnerTries_70 rfl rfl ?_
      refine j_dup G rfl dX1_runnerTries_71 ?_
      refine j_get G hW 2 11 0 (.int (I13 a0 11)) k0 (by decide) rfl (by decide) rfl lay_X1 fl_X1_79 rfl rfl dX1_runnerTries_72 ?_
      refine j_iconst G (1 : Int32) dX1_runnerTries_75 (by decide) ?_
      refine j_iadd G dX1_runnerTries_76 ?_
      refine j_put G hW 2 11 tyX1 (tyX1 11) tyX1_ok nmX1 k0 (by decide) rfl (by decide) rfl lay_X1 fl_X1_79 rfl rfl (tyX1_ok 11 (by decide)) rfl rfl dX1_runnerTries_77 ?_
      refine j_mI (fun I27 eI27 => ?_)
      have h := h I27 eI27
      refine j_iload G 0 dX1_runnerTries_80 rfl ?_
      refine j_if_ne G 99 dX1_runnerTries_82 (by decide) (fun c28 => ?_) (fun c28 => ?_)
      · have h := h.1 c28
        exact Jg.sub [4, 0] rfl (m_X1_runnerTries_p99 G hW a0 r11 k0 I27 h)
      · have h := h.2 c28
        refine j_aload_n G 3 1 dX1_runnerTries_85 rfl rfl ?_
        refine j_aload_n G 4 0 dX1_runnerTries_86 rfl rfl ?_
        refine j_get G hW 2 0 4 (.ref (a0 + 1)) k0 (by decide) rfl (by decide) rfl lay_X1 fl_X1_12 rfl rfl dX1_runnerTries_87 ?_
        refine j_aload_n G 4 0 dX1_runnerTries_90 rfl rfl ?_
        refine j_iload_n G 1 3 dX1_runnerTries_91 rfl rfl ?_
        refine j_aload_n G 2 2 dX1_runnerTries_92 rfl rfl ?_
        refine j_ci (rn_V G hW (ci := 2) (n := 2) (As := [.int r10, .ref (a0 + 10 + ix (I6 (a0 + 57) 1))]) (rest := [.ref (a0 + 1), .ref (a0 + 57)]) (c_X1_runnerDoes K hW l a0 r10 (a0 + 10 + ix (I6 (a0 + 57) 1)) k0 kk9 I27 J B _ h) k0 (by decide) rfl ml_X1_181 im_X1_runnerDoes se_X1_runnerDoes in_X1 co_X1_runnerDoes rfl (by decide +kernel) rfl rfl (by decide) (by decide) rfl rfl (Nat.le_of_ble_eq_true rfl) dX1_runnerTries_93) (fun r29 I30 h => ?_)
        refine j_cv (rn_V G hW (ci := 6) (n := 2) (As := [.ref (a0 + 1), .int r29]) (rest := []) (c_X5_finishDeed K hW l (a0 + 57) (a0 + 1) r29 kk2 (congrArg Prod.fst kk5) I30 J B _ h) kk2 (by decide) rfl ml_X1_184 im_X5_finishDeed se_X5_finishDeed in_X5 co_X5_finishDeed rfl (by decide +kernel) rfl rfl (by decide) (by decide) rfl rfl (Nat.le_of_ble_eq_true rfl) dX1_runnerTries_96) (fun I31 h => ?_)
        exact Jg.sub [4, 0] rfl (m_X1_runnerTries_p99 G hW a0 r11 k0 I31 h)
  · have h := h.2 c4
    exact j_retv G I3 dX1_runnerTries_19 h rfl
abbrev rm_X1_hasCome : Room := { frames := 1, cells := 0, slots := 0, locals := 21 }
def w_X1_hasCome (a0 : Nat) (x1 : Int32) (I : MI) (Q : Int32 →  Prop) : Prop :=
(((I (a0 + 39) 3) ≤ x1 → Q (0 : Int32)) ∧
(¬ (I (a0 + 39) 3) ≤ x1 → (w_X3_markAt (a0 + 39) x1 I (fun r4 =>
((((I a0 5) - r4) < (I a0 7) → Q (0 : Int32)) ∧
(¬ ((I a0 5) - r4) < (I a0 7) → Q (1 : Int32)))))))
set_option maxHeartbeats 4000000 in
set_option maxRecDepth 100000 in
theorem c_X1_hasCome (K : Kx) (hW : WFK K) (l : Launch) (a0 : Nat) (x1 : Int32) (k0 : (kG K a0).1 = 3) (I : MI) (J : MJ) (B : MR) (Q : Int32 →  Prop) (h : w_X1_hasCome a0 x1 I Q) : Con K l yX1_hasCome (wsT yX1_hasCome cX1_hasCome 2 (some .boolean)) rm_X1_hasCome [.ref a0, .int x1] (I, J, B) (va_Qi (S := Unit) (fun r _ => Q r) (fun u t => HP K (I, J, B) t.heap) (AA K)) := by
  refine Con.ofJ RX1 rfl (by decide) (Nat.le_of_ble_eq_true rfl) (fun m H0 w G => ?_)
  unfold w_X1_hasCome at h
  show Jg K m 2 H0 w 0 [(0, .ref a0), (1, .int x1)] [] (I, J, B)
  refine j_iload_n G 1 1 dX1_hasCome_0 rfl rfl ?_
  refine j_aload_n G 0 0 dX1_hasCome_1 rfl rfl ?_
  have kk1 : kG K (a0 + 37) = (25, 6) := wk_3_37 hW k0
  refine j_get G hW 2 3 40 (.ref (a0 + 37)) k0 (by decide) rfl (by decide) rfl lay_X1 fl_X1_27 rfl rfl dX1_hasCome_2 ?_
  refine j_iconst G (0 : Int32) dX1_hasCome_5 (by decide) ?_
  have kk2 : (kG K (a0 + 39)).1 = 5 := wk_a25 (i := (0 : Int32)) hW kk1 (vpc rfl) (ad1 (j := 0) (by decide) rfl)
  refine j_aald25 G hW (i := (0 : Int32)) (b := a0 + 39) kk1 (vpc rfl) (ad1 (j := 0) (by decide) rfl) dX1_hasCome_6 ?_
  refine j_get G hW 4 3 0 (.int (I (a0 + 39) 3)) kk2 (by decide) rfl (by decide) rfl lay_X3 fl_X1_142 rfl rfl dX1_hasCome_7 ?_
  refine j_icmp_ge G 39 dX1_hasCome_10 (by decide) (fun c3 => ?_) (fun c3 => ?_)
  · have h := h.1 c3
    refine j_iconst G (0 : Int32) dX1_hasCome_39 (by decide) ?_
    exact j_reti G () (by decide) dX1_hasCome_40 h rfl
  · have h := h.2 c3
    refine j_aload_n G 0 0 dX1_hasCome_13 rfl rfl ?_
    refine j_get G hW 2 5 0 (.int (I a0 5)) k0 (by decide) rfl (by decide) rfl lay_X1 fl_X1_59 rfl rfl dX1_hasCome_14 ?_
    refine j_aload_n G 0 0 dX1_hasCome_17 rfl rfl ?_
    refine j_get G hW 2 3 40 (.ref (a0 + 37)) k0 (by decide) rfl (by decide) rfl lay_X1 fl_X1_27 rfl rfl dX1_hasCome_18 ?_
    refine j_iconst G (0 : Int32) dX1_hasCome_21 (by decide) ?_
    refine j_aald25 G hW (i := (0 : Int32)) (b := a0 + 39) kk1 (vpc rfl) (ad1 (j := 0) (by decide) rfl) dX1_hasCome_22 ?_
    refine j_iload_n G 1 1 dX1_hasCome_23 rfl rfl ?_
    refine j_ci (rn_V G hW (ci := 4) (n := 1) (As := [.int x1]) (rest := [.int (I a0 5)]) (c_X3_markAt K hW l (a0 + 39) x1 kk2 I J B _ h) kk2 (by decide) rfl ml_X1_153 im_X3_markAt se_X3_markAt in_X3 co_X3_markAt rfl (by decide +kernel) rfl rfl (by decide) (by decide) rfl rfl (Nat.le_of_ble_eq_true rfl) dX1_hasCome_24) (fun r4 _ h => ?_)
    refine j_isub G dX1_hasCome_27 ?_
    refine j_aload_n G 0 0 dX1_hasCome_28 rfl rfl ?_
    refine j_get G hW 2 7 0 (.int (I a0 7)) k0 (by decide) rfl (by decide) rfl lay_X1 fl_X1_69 rfl rfl dX1_hasCome_29 ?_
    refine j_icmp_lt G 39 dX1_hasCome_32 (by decide) (fun c5 => ?_) (fun c5 => ?_)
    · have h := h.1 c5
      refine j_iconst G (0 : Int32) dX1_hasCome_39 (by decide) ?_
      exact j_reti G () (by decide) dX1_hasCome_40 h rfl
    · have h := h.2 c5
      refine j_iconst G (1 : Int32) dX1_hasCome_35 (by decide) ?_
      refine j_goto G 40 dX1_hasCome_36 (by decide) ?_
      exact j_reti G () (by decide) dX1_hasCome_40 h rfl
abbrev rm_X1_lacksCopies : Room := { frames := 1, cells := 0, slots := 0, locals := 21 }
def w_X1_lacksCopies_p22 (a0 : Nat) (a1 : Nat) (s0 : Int32) (I : MI)  (Q : Int32 →  Prop) : Prop :=
(w_X9_isIn (I (a0 + 1) 4) (I a1 3) (fun r5 =>
((r5 = 0 → (∀ x2_7, x2_7 = s0 + (0 : Int32) →
((x2_7 ≤ (I (a0 + 48) 3) → Q (0 : Int32)) ∧
(¬ x2_7 ≤ (I (a0 + 48) 3) → Q (1 : Int32))))) ∧
(¬ r5 = 0 → (∀ x2_11, x2_11 = s0 + (1 : Int32) →
((x2_11 ≤ (I (a0 + 48) 3) → Q (0 : Int32)) ∧
(¬ x2_11 ≤ (I (a0 + 48) 3) → Q (1 : Int32))))))))
set_option maxHeartbeats 4000000 in
set_option maxRecDepth 100000 in
theorem m_X1_lacksCopies_p22 {K : Kx} {l : Launch} {m : MethodId} {H0 : Heap} {Q : Int32 →  Prop} {w : HW} {I : MI} {J : MJ} {B : MR} (G : Gd l rm_X1_lacksCopies K m RX1 cX1_lacksCopies 3 H0 (some .boolean) (va_Qi (S := Unit) (fun r _ => Q r) (fun u t => HP K (I, J, B) t.heap) (AA K)) w) (hW : WFK K) (a0 : Nat) (a1 : Nat) (s0 : Int32) (ka0 : (kG K a0).1 = 3) (ka1 : (kG K a1).1 = 2)     (h : w_X1_lacksCopies_p22 a0 a1 s0 I Q) : Jg K m 3 H0 w 22 [(0, .ref a0), (1, .ref a1)] [.int s0] (I, J, B) := by
  unfold w_X1_lacksCopies_p22 at h
  refine j_aload_n G 0 0 dX1_lacksCopies_22 rfl rfl ?_
  have kk4 : kG K (a0 + 1) = (4, 0) := wk_3_1 hW ka0
  refine j_get G hW 2 0 4 (.ref (a0 + 1)) ka0 (by decide) rfl (by decide) rfl lay_X1 fl_X1_12 rfl rfl dX1_lacksCopies_23 ?_
  refine j_get G hW 3 4 0 (.int (I (a0 + 1) 4)) (congrArg Prod.fst kk4) (by decide) rfl (by decide) rfl lay_X2 fl_X1_244 rfl rfl dX1_lacksCopies_26 ?_
  refine j_aload_n G 1 1 dX1_lacksCopies_29 rfl rfl ?_
  refine j_get G hW 1 3 0 (.int (I a1 3)) ka1 (by decide) rfl (by decide) rfl lay_X0 fl_X1_220 rfl rfl dX1_lacksCopies_30 ?_
  refine j_ci (rn_N G (n := 2) (As := [.int (I (a0 + 1) 4), .int (I a1 3)]) (rest := [.int s0]) (c_X9_isIn K hW l (I (a0 + 1) 4) (I a1 3) I J B _ h) (List.mem_of_getElem? (i := 8) rfl) st_X9_isIn in_X9 co_X9_isIn (by decide +kernel) rfl rfl (by decide) (by decide) rfl rfl (Nat.le_of_ble_eq_true rfl) dX1_lacksCopies_33) (fun r5 _ h => ?_)
  refine j_if_eq G 43 dX1_lacksCopies_36 (by decide) (fun c6 => ?_) (fun c6 => ?_)
  · have h := h.1 c6
    refine j_iconst G (0 : Int32) dX1_lacksCopies_43 (by decide) ?_
    refine j_iadd G dX1_lacksCopies_44 ?_
    refine j_nm (fun x2_7 ex2_7 => ?_)
    have h := h x2_7 ex2_7
    refine j_istore_n G 2 [(2, .int x2_7), (0, .ref a0), (1, .ref a1)] dX1_lacksCopies_45 rfl (by decide) rfl ?_
    refine j_aload_n G 1 0 dX1_lacksCopies_46 rfl rfl ?_
    have kk8 : kG K (a0 + 37) = (25, 6) := wk_3_37 hW ka0
    refine j_get G hW 2 3 40 (.ref (a0 + 37)) ka0 (by decide) rfl (by decide) rfl lay_X1 fl_X1_27 rfl rfl dX1_lacksCopies_47 ?_
    refine j_iconst G (3 : Int32) dX1_lacksCopies_50 (by decide) ?_
    have kk9 : (kG K (a0 + 48)).1 = 5 := wk_a25 (i := (3 : Int32)) hW kk8 (vpc rfl) (ad1 (j := 3) (by decide) rfl)
    refine j_aald25 G hW (i := (3 : Int32)) (b := a0 + 48) kk8 (vpc rfl) (ad1 (j := 3) (by decide) rfl) dX1_lacksCopies_51 ?_
    refine j_get G hW 4 3 0 (.int (I (a0 + 48) 3)) kk9 (by decide) rfl (by decide) rfl lay_X3 fl_X1_142 rfl rfl dX1_lacksCopies_52 ?_
    refine j_iload_n G 0 2 dX1_lacksCopies_55 rfl rfl ?_
    refine j_icmp_ge G 63 dX1_lacksCopies_56 (by decide) (fun c10 => ?_) (fun c10 => ?_)
    · have h := h.1 c10
      refine j_iconst G (0 : Int32) dX1_lacksCopies_63 (by decide) ?_
      exact j_reti G () (by decide) dX1_lacksCopies_64 h rfl
    · have h := h.2 c10
      refine j_iconst G (1 : Int32) dX1_lacksCopies_59 (by decide) ?_
      refine j_goto G 64 dX1_lacksCopies_60 (by decide) ?_
      exact j_reti G () (by decide) dX1_lacksCopies_64 h rfl
  · have h := h.2 c6
    refine j_iconst G (1 : Int32) dX1_lacksCopies_39 (by decide) ?_
    refine j_goto G 44 dX1_lacksCopies_40 (by decide) ?_
    refine j_iadd G dX1_lacksCopies_44 ?_
    refine j_nm (fun x2_11 ex2_11 => ?_)
    have h := h x2_11 ex2_11
    refine j_istore_n G 2 [(2, .int x2_11), (0, .ref a0), (1, .ref a1)] dX1_lacksCopies_45 rfl (by decide) rfl ?_
    refine j_aload_n G 1 0 dX1_lacksCopies_46 rfl rfl ?_
    have kk12 : kG K (a0 + 37) = (25, 6) := wk_3_37 hW ka0
    refine j_get G hW 2 3 40 (.ref (a0 + 37)) ka0 (by decide) rfl (by decide) rfl lay_X1 fl_X1_27 rfl rfl dX1_lacksCopies_47 ?_
    refine j_iconst G (3 : Int32) dX1_lacksCopies_50 (by decide) ?_
    have kk13 : (kG K (a0 + 48)).1 = 5 := wk_a25 (i := (3 : Int32)) hW kk12 (vpc rfl) (ad1 (j := 3) (by decide) rfl)
    refine j_aald25 G hW (i := (3 : Int32)) (b := a0 + 48) kk12 (vpc rfl) (ad1 (j := 3) (by decide) rfl) dX1_lacksCopies_51 ?_
    refine j_get G hW 4 3 0 (.int (I (a0 + 48) 3)) kk13 (by decide) rfl (by decide) rfl lay_X3 fl_X1_142 rfl rfl dX1_lacksCopies_52 ?_
    refine j_iload_n G 0 2 dX1_lacksCopies_55 rfl rfl ?_
    refine j_icmp_ge G 63 dX1_lacksCopies_56 (by decide) (fun c14 => ?_) (fun c14 => ?_)
    · have h := h.1 c14
      refine j_iconst G (0 : Int32) dX1_lacksCopies_63 (by decide) ?_
      exact j_reti G () (by decide) dX1_lacksCopies_64 h rfl
    · have h := h.2 c14
      refine j_iconst G (1 : Int32) dX1_lacksCopies_59 (by decide) ?_
      refine j_goto G 64 dX1_lacksCopies_60 (by decide) ?_
      exact j_reti G () (by decide) dX1_lacksCopies_64 h rfl
def w_X1_lacksCopies (a0 : Nat) (a1 : Nat) (I : MI) (Q : Int32 →  Prop) : Prop :=
(w_X9_isIn (I (a0 + 1) 4) (I a1 2) (fun r2 =>
((r2 = 0 → w_X1_lacksCopies_p22 a0 a1 (0 : Int32) I Q) ∧
(¬ r2 = 0 → w_X1_lacksCopies_p22 a0 a1 (1 : Int32) I Q))))
set_option maxHeartbeats 4000000 in
set_option maxRecDepth 100000 in
theorem c_X1_lacksCopies (K : Kx) (hW : WFK K) (l : Launch) (a0 : Nat) (a1 : Nat) (k0 : (kG K a0).1 = 3) (k1 : (kG K a1).1 = 2) (I : MI) (J : MJ) (B : MR) (Q : Int32 →  Prop) (h : w_X1_lacksCopies a0 a1 I Q) : Con K l yX1_lacksCopies (wsT yX1_lacksCopies cX1_lacksCopies 3 (some .boolean)) rm_X1_lacksCopies [.ref a0, .ref a1] (I, J, B) (va_Qi (S := Unit) (fun r _ => Q r) (fun u t => HP K (I, J, B) t.heap) (AA K)) := by
  refine Con.ofJ RX1 rfl (by decide) (Nat.le_of_ble_eq_true rfl) (fun m H0 w G => ?_)
  unfold w_X1_lacksCopies at h
  show Jg K m 3 H0 w 0 [(0, .ref a0), (1, .ref a1)] [] (I, J, B)
  refine j_aload_n G 0 0 dX1_lacksCopies_0 rfl rfl ?_
  have kk1 : kG K (a0 + 1) = (4, 0) := wk_3_1 hW k0
  refine j_get G hW 2 0 4 (.ref (a0 + 1)) k0 (by decide) rfl (by decide) rfl lay_X1 fl_X1_12 rfl rfl dX1_lacksCopies_1 ?_
  refine j_get G hW 3 4 0 (.int (I (a0 + 1) 4)) (congrArg Prod.fst kk1) (by decide) rfl (by decide) rfl lay_X2 fl_X1_244 rfl rfl dX1_lacksCopies_4 ?_
  refine j_aload_n G 1 1 dX1_lacksCopies_7 rfl rfl ?_
  refine j_get G hW 1 2 0 (.int (I a1 2)) k1 (by decide) rfl (by decide) rfl lay_X0 fl_X1_217 rfl rfl dX1_lacksCopies_8 ?_
  refine j_ci (rn_N G (n := 2) (As := [.int (I (a0 + 1) 4), .int (I a1 2)]) (rest := []) (c_X9_isIn K hW l (I (a0 + 1) 4) (I a1 2) I J B _ h) (List.mem_of_getElem? (i := 8) rfl) st_X9_isIn in_X9 co_X9_isIn (by decide +kernel) rfl rfl (by decide) (by decide) rfl rfl (Nat.le_of_ble_eq_true rfl) dX1_lacksCopies_11) (fun r2 _ h => ?_)
  refine j_if_eq G 21 dX1_lacksCopies_14 (by decide) (fun c3 => ?_) (fun c3 => ?_)
  · have h := h.1 c3
    refine j_iconst G (0 : Int32) dX1_lacksCopies_21 (by decide) ?_
    exact m_X1_lacksCopies_p22 G hW a0 a1 (0 : Int32) k0 k1 h
  · have h := h.2 c3
    refine j_iconst G (1 : Int32) dX1_lacksCopies_17 (by decide) ?_
    refine j_goto G 22 dX1_lacksCopies_18 (by decide) ?_
    exact m_X1_lacksCopies_p22 G hW a0 a1 (1 : Int32) k0 k1 h
abbrev rm_X1_workerWaitsFor : Room := { frames := 2, cells := 0, slots := 0, locals := 43 }
def w_X1_workerWaitsFor (a0 : Nat) (x1 : Int32) (a2 : Nat) (I : MI) (Q : Int32 →  Prop) : Prop :=
((x1 = (1 : Int32) ∨ x1 = (2 : Int32) ∨ x1 = (3 : Int32) → (w_X1_lacksCopies a0 a2 I (fun r1 =>
((r1 = 0 → Q (0 : Int32)) ∧
(¬ r1 = 0 → Q (2 : Int32)))))) ∧
(x1 = (12 : Int32) → (w_X1_hasCome a0 (0 : Int32) I (fun r3 =>
((r3 = 0 → Q (1 : Int32)) ∧
(¬ r3 = 0 → Q (0 : Int32)))))) ∧
(x1 = (15 : Int32) → (w_X3_isFull (a0 + 45) I (fun r7 =>
((r7 = 0 → Q (0 : Int32)) ∧
(¬ r7 = 0 → Q (4 : Int32)))))) ∧
(x1 = (17 : Int32) → ((¬ (I (a0 + 51) 3) = 0 → Q (0 : Int32)) ∧
((I (a0 + 51) 3) = 0 → Q (3 : Int32)))) ∧
(x1 = (19 : Int32) → (w_X1_lacksCopies a0 a2 I (fun r12 =>
((r12 = 0 → (w_X3_isFull (a0 + 54) I (fun r16 =>
((r16 = 0 → Q (0 : Int32)) ∧
(¬ r16 = 0 → Q (5 : Int32)))))) ∧
(¬ r12 = 0 → Q (2 : Int32)))))) ∧
(¬ x1 = (1 : Int32) → ¬ x1 = (2 : Int32) → ¬ x1 = (3 : Int32) → ¬ x1 = (12 : Int32) → ¬ x1 = (15 : Int32) → ¬ x1 = (17 : Int32) → ¬ x1 = (19 : Int32) → Q (0 : Int32)))
set_option maxHeartbeats 4000000 in
set_option maxRecDepth 100000 in
theorem c_X1_workerWaitsFor (K : Kx) (hW : WFK K) (l : Launch) (a0 : Nat) (x1 : Int32) (a2 : Nat) (k0 : (kG K a0).1 = 3) (k2 : (kG K a2).1 = 2) (I : MI) (J : MJ) (B : MR) (Q : Int32 →  Prop) (h : w_X1_workerWaitsFor a0 x1 a2 I Q) : Con K l yX1_workerWaitsFor (wsT yX1_workerWaitsFor cX1_workerWaitsFor 3 (some .int)) rm_X1_workerWaitsFor [.ref a0, .int x1, .ref a2] (I, J, B) (va_Qi (S := Unit) (fun r _ => Q r) (fun u t => HP K (I, J, B) t.heap) (AA K)) := by
  refine Con.ofJ RX1 rfl (by decide) (Nat.le_of_ble_eq_true rfl) (fun m H0 w G => ?_)
  unfold w_X1_workerWaitsFor at h
  show Jg K m 3 H0 w 0 [(0, .ref a0), (1, .int x1), (2, .ref a2)] [] (I, J, B)
  refine j_iload_n G 1 1 dX1_workerWaitsFor_0 rfl rfl ?_
  by_cases c18 : x1 = (1 : Int32)
  · have h := h.1 (Or.inl c18)
    refine j_tableIn G 142 dX1_workerWaitsFor_1 (by rw [c18]; decide) (by rw [c18]; decide) (by rw [c18] <;> rfl) (by decide) ?_
    refine j_aload_n G 0 0 dX1_workerWaitsFor_142 rfl rfl ?_
    refine j_aload_n G 2 2 dX1_workerWaitsFor_143 rfl rfl ?_
    refine j_ci (rn_V G hW (ci := 2) (n := 1) (As := [.ref a2]) (rest := []) (c_X1_lacksCopies K hW l a0 a2 k0 k2 I J B _ h) k0 (by decide) rfl ml_X1_240 im_X1_lacksCopies se_X1_lacksCopies in_X1 co_X1_lacksCopies rfl (by decide +kernel) rfl rfl (by decide) (by decide) rfl rfl (Nat.le_of_ble_eq_true rfl) dX1_workerWaitsFor_144) (fun r1 _ h => ?_)
    refine j_if_eq G 154 dX1_workerWaitsFor_147 (by decide) (fun c2 => ?_) (fun c2 => ?_)
    · have h := h.1 c2
      refine j_iconst G (0 : Int32) dX1_workerWaitsFor_154 (by decide) ?_
      exact j_reti G () rfl dX1_workerWaitsFor_155 h rfl
    · have h := h.2 c2
      refine j_iconst G (2 : Int32) dX1_workerWaitsFor_150 (by decide) ?_
      refine j_goto G 155 dX1_workerWaitsFor_151 (by decide) ?_
      exact j_reti G () rfl dX1_workerWaitsFor_155 h rfl
  · skip
    by_cases c19 : x1 = (2 : Int32)
    · have h := h.1 (Or.inr (Or.inl c19))
      refine j_tableIn G 142 dX1_workerWaitsFor_1 (by rw [c19]; decide) (by rw [c19]; decide) (by rw [c19] <;> rfl) (by decide) ?_
      refine j_aload_n G 0 0 dX1_workerWaitsFor_142 rfl rfl ?_
      refine j_aload_n G 2 2 dX1_workerWaitsFor_143 rfl rfl ?_
      refine j_ci (rn_V G hW (ci := 2) (n := 1) (As := [.ref a2]) (rest := []) (c_X1_lacksCopies K hW l a0 a2 k0 k2 I J B _ h) k0 (by decide) rfl ml_X1_240 im_X1_lacksCopies se_X1_lacksCopies in_X1 co_X1_lacksCopies rfl (by decide +kernel) rfl rfl (by decide) (by decide) rfl rfl (Nat.le_of_ble_eq_true rfl) dX1_workerWaitsFor_144) (fun r1 _ h => ?_)
      refine j_if_eq G 154 dX1_workerWaitsFor_147 (by decide) (fun c2 => ?_) (fun c2 => ?_)
      · have h := h.1 c2
        refine j_iconst G (0 : Int32) dX1_workerWaitsFor_154 (by decide) ?_
        exact j_reti G () rfl dX1_workerWaitsFor_155 h rfl
      · have h := h.2 c2
        refine j_iconst G (2 : Int32) dX1_workerWaitsFor_150 (by decide) ?_
        refine j_goto G 155 dX1_workerWaitsFor_151 (by decide) ?_
        exact j_reti G () rfl dX1_workerWaitsFor_155 h rfl
    · skip
      by_cases c20 : x1 = (3 : Int32)
      · have h := h.1 (Or.inr (Or.inr (c20)))
        refine j_tableIn G 142 dX1_workerWaitsFor_1 (by rw [c20]; decide) (by rw [c20]; decide) (by rw [c20] <;> rfl) (by decide) ?_
        refine j_aload_n G 0 0 dX1_workerWaitsFor_142 rfl rfl ?_
        refine j_aload_n G 2 2 dX1_workerWaitsFor_143 rfl rfl ?_
        refine j_ci (rn_V G hW (ci := 2) (n := 1) (As := [.ref a2]) (rest := []) (c_X1_lacksCopies K hW l a0 a2 k0 k2 I J B _ h) k0 (by decide) rfl ml_X1_240 im_X1_lacksCopies se_X1_lacksCopies in_X1 co_X1_lacksCopies rfl (by decide +kernel) rfl rfl (by decide) (by decide) rfl rfl (Nat.le_of_ble_eq_true rfl) dX1_workerWaitsFor_144) (fun r1 _ h => ?_)
        refine j_if_eq G 154 dX1_workerWaitsFor_147 (by decide) (fun c2 => ?_) (fun c2 => ?_)
        · have h := h.1 c2
          refine j_iconst G (0 : Int32) dX1_workerWaitsFor_154 (by decide) ?_
          exact j_reti G () rfl dX1_workerWaitsFor_155 h rfl
        · have h := h.2 c2
          refine j_iconst G (2 : Int32) dX1_workerWaitsFor_150 (by decide) ?_
          refine j_goto G 155 dX1_workerWaitsFor_151 (by decide) ?_
          exact j_reti G () rfl dX1_workerWaitsFor_155 h rfl
      · skip
        by_cases c21 : x1 = (12 : Int32)
        · have h := h.2.1 (c21)
          refine j_tableIn G 92 dX1_workerWaitsFor_1 (by rw [c21]; decide) (by rw [c21]; decide) (by rw [c21] <;> rfl) (by decide) ?_
          refine j_aload_n G 0 0 dX1_workerWaitsFor_92 rfl rfl ?_
          refine j_iconst G (0 : Int32) dX1_workerWaitsFor_93 (by decide) ?_
          refine j_ci (rn_V G hW (ci := 2) (n := 1) (As := [.int (0 : Int32)]) (rest := []) (c_X1_hasCome K hW l a0 (0 : Int32) k0 I J B _ h) k0 (by decide) rfl ml_X1_149 im_X1_hasCome se_X1_hasCome in_X1 co_X1_hasCome rfl (by decide +kernel) rfl rfl (by decide) (by decide) rfl rfl (Nat.le_of_ble_eq_true rfl) dX1_workerWaitsFor_94) (fun r3 _ h => ?_)
          refine j_if_eq G 104 dX1_workerWaitsFor_97 (by decide) (fun c4 => ?_) (fun c4 => ?_)
          · have h := h.1 c4
            refine j_iconst G (1 : Int32) dX1_workerWaitsFor_104 (by decide) ?_
            exact j_reti G () rfl dX1_workerWaitsFor_105 h rfl
          · have h := h.2 c4
            refine j_iconst G (0 : Int32) dX1_workerWaitsFor_100 (by decide) ?_
            refine j_goto G 105 dX1_workerWaitsFor_101 (by decide) ?_
            exact j_reti G () rfl dX1_workerWaitsFor_105 h rfl
        · skip
          by_cases c22 : x1 = (15 : Int32)
          · have h := h.2.2.1 (c22)
            refine j_tableIn G 124 dX1_workerWaitsFor_1 (by rw [c22]; decide) (by rw [c22]; decide) (by rw [c22] <;> rfl) (by decide) ?_
            refine j_aload_n G 0 0 dX1_workerWaitsFor_124 rfl rfl ?_
            have kk5 : kG K (a0 + 37) = (25, 6) := wk_3_37 hW k0
            refine j_get G hW 2 3 40 (.ref (a0 + 37)) k0 (by decide) rfl (by decide) rfl lay_X1 fl_X1_27 rfl rfl dX1_workerWaitsFor_125 ?_
            refine j_iconst G (2 : Int32) dX1_workerWaitsFor_128 (by decide) ?_
            have kk6 : (kG K (a0 + 45)).1 = 5 := wk_a25 (i := (2 : Int32)) hW kk5 (vpc rfl) (ad1 (j := 2) (by decide) rfl)
            refine j_aald25 G hW (i := (2 : Int32)) (b := a0 + 45) kk5 (vpc rfl) (ad1 (j := 2) (by decide) rfl) dX1_workerWaitsFor_129 ?_
            refine j_ci (rn_V G hW (ci := 4) (n := 0) (As := []) (rest := []) (c_X3_isFull K hW l (a0 + 45) kk6 I J B _ h) kk6 (by decide) rfl ml_X1_197 im_X3_isFull se_X3_isFull in_X3 co_X3_isFull rfl (by decide +kernel) rfl rfl (by decide) (by decide) rfl rfl (Nat.le_of_ble_eq_true rfl) dX1_workerWaitsFor_130) (fun r7 _ h => ?_)
            refine j_if_eq G 140 dX1_workerWaitsFor_133 (by decide) (fun c8 => ?_) (fun c8 => ?_)
            · have h := h.1 c8
              refine j_iconst G (0 : Int32) dX1_workerWaitsFor_140 (by decide) ?_
              exact j_reti G () rfl dX1_workerWaitsFor_141 h rfl
            · have h := h.2 c8
              refine j_iconst G (4 : Int32) dX1_workerWaitsFor_136 (by decide) ?_
              refine j_goto G 141 dX1_workerWaitsFor_137 (by decide) ?_
              exact j_reti G () rfl dX1_workerWaitsFor_141 h rfl
          · skip
            by_cases c23 : x1 = (17 : Int32)
            · have h := h.2.2.2.1 (c23)
              refine j_tableIn G 106 dX1_workerWaitsFor_1 (by rw [c23]; decide) (by rw [c23]; decide) (by rw [c23] <;> rfl) (by decide) ?_
              refine j_aload_n G 0 0 dX1_workerWaitsFor_106 rfl rfl ?_
              have kk9 : kG K (a0 + 37) = (25, 6) := wk_3_37 hW k0
              refine j_get G hW 2 3 40 (.ref (a0 + 37)) k0 (by decide) rfl (by decide) rfl lay_X1 fl_X1_27 rfl rfl dX1_workerWaitsFor_107 ?_
              refine j_iconst G (4 : Int32) dX1_workerWaitsFor_110 (by decide) ?_
              have kk10 : (kG K (a0 + 51)).1 = 5 := wk_a25 (i := (4 : Int32)) hW kk9 (vpc rfl) (ad1 (j := 4) (by decide) rfl)
              refine j_aald25 G hW (i := (4 : Int32)) (b := a0 + 51) kk9 (vpc rfl) (ad1 (j := 4) (by decide) rfl) dX1_workerWaitsFor_111 ?_
              refine j_get G hW 4 3 0 (.int (I (a0 + 51) 3)) kk10 (by decide) rfl (by decide) rfl lay_X3 fl_X1_142 rfl rfl dX1_workerWaitsFor_112 ?_
              refine j_if_ne G 122 dX1_workerWaitsFor_115 (by decide) (fun c11 => ?_) (fun c11 => ?_)
              · have h := h.1 c11
                refine j_iconst G (0 : Int32) dX1_workerWaitsFor_122 (by decide) ?_
                exact j_reti G () rfl dX1_workerWaitsFor_123 h rfl
              · have h := h.2 c11
                refine j_iconst G (3 : Int32) dX1_workerWaitsFor_118 (by decide) ?_
                refine j_goto G 123 dX1_workerWaitsFor_119 (by decide) ?_
                exact j_reti G () rfl dX1_workerWaitsFor_123 h rfl
            · skip
              by_cases c24 : x1 = (19 : Int32)
              · have h := h.2.2.2.2.1 (c24)
                refine j_tableIn G 156 dX1_workerWaitsFor_1 (by rw [c24]; decide) (by rw [c24]; decide) (by rw [c24] <;> rfl) (by decide) ?_
                refine j_aload_n G 0 0 dX1_workerWaitsFor_156 rfl rfl ?_
                refine j_aload_n G 2 2 dX1_workerWaitsFor_157 rfl rfl ?_
                refine j_ci (rn_V G hW (ci := 2) (n := 1) (As := [.ref a2]) (rest := []) (c_X1_lacksCopies K hW l a0 a2 k0 k2 I J B _ h) k0 (by decide) rfl ml_X1_240 im_X1_lacksCopies se_X1_lacksCopies in_X1 co_X1_lacksCopies rfl (by decide +kernel) rfl rfl (by decide) (by decide) rfl rfl (Nat.le_of_ble_eq_true rfl) dX1_workerWaitsFor_158) (fun r12 _ h => ?_)
                refine j_if_eq G 166 dX1_workerWaitsFor_161 (by decide) (fun c13 => ?_) (fun c13 => ?_)
                · have h := h.1 c13
                  refine j_aload_n G 0 0 dX1_workerWaitsFor_166 rfl rfl ?_
                  have kk14 : kG K (a0 + 37) = (25, 6) := wk_3_37 hW k0
                  refine j_get G hW 2 3 40 (.ref (a0 + 37)) k0 (by decide) rfl (by decide) rfl lay_X1 fl_X1_27 rfl rfl dX1_workerWaitsFor_167 ?_
                  refine j_iconst G (5 : Int32) dX1_workerWaitsFor_170 (by decide) ?_
                  have kk15 : (kG K (a0 + 54)).1 = 5 := wk_a25 (i := (5 : Int32)) hW kk14 (vpc rfl) (ad1 (j := 5) (by decide) rfl)
                  refine j_aald25 G hW (i := (5 : Int32)) (b := a0 + 54) kk14 (vpc rfl) (ad1 (j := 5) (by decide) rfl) dX1_workerWaitsFor_171 ?_
                  refine j_ci (rn_V G hW (ci := 4) (n := 0) (As := []) (rest := []) (c_X3_isFull K hW l (a0 + 54) kk15 I J B _ h) kk15 (by decide) rfl ml_X1_197 im_X3_isFull se_X3_isFull in_X3 co_X3_isFull rfl (by decide +kernel) rfl rfl (by decide) (by decide) rfl rfl (Nat.le_of_ble_eq_true rfl) dX1_workerWaitsFor_172) (fun r16 _ h => ?_)
                  refine j_if_eq G 182 dX1_workerWaitsFor_175 (by decide) (fun c17 => ?_) (fun c17 => ?_)
                  · have h := h.1 c17
                    refine j_iconst G (0 : Int32) dX1_workerWaitsFor_182 (by decide) ?_
                    exact j_reti G () rfl dX1_workerWaitsFor_183 h rfl
                  · have h := h.2 c17
                    refine j_iconst G (5 : Int32) dX1_workerWaitsFor_178 (by decide) ?_
                    refine j_goto G 183 dX1_workerWaitsFor_179 (by decide) ?_
                    exact j_reti G () rfl dX1_workerWaitsFor_183 h rfl
                · have h := h.2 c13
                  refine j_iconst G (2 : Int32) dX1_workerWaitsFor_164 (by decide) ?_
                  exact j_reti G () rfl dX1_workerWaitsFor_165 h rfl
              · skip
                have h := h.2.2.2.2.2 c18 c19 c20 c21 c22 c23 c24
                by_cases c25 : x1 = (4 : Int32)
                · refine j_tableIn G 184 dX1_workerWaitsFor_1 (by rw [c25]; decide) (by rw [c25]; decide) (by rw [c25] <;> rfl) (by decide) ?_
                  refine j_iconst G (0 : Int32) dX1_workerWaitsFor_184 (by decide) ?_
                  exact j_reti G () rfl dX1_workerWaitsFor_185 h rfl
                · skip
                  by_cases c26 : x1 = (5 : Int32)
                  · refine j_tableIn G 184 dX1_workerWaitsFor_1 (by rw [c26]; decide) (by rw [c26]; decide) (by rw [c26] <;> rfl) (by decide) ?_
                    refine j_iconst G (0 : Int32) dX1_workerWaitsFor_184 (by decide) ?_
                    exact j_reti G () rfl dX1_workerWaitsFor_185 h rfl
                  · skip
                    by_cases c27 : x1 = (6 : Int32)
                    · refine j_tableIn G 184 dX1_workerWaitsFor_1 (by rw [c27]; decide) (by rw [c27]; decide) (by rw [c27] <;> rfl) (by decide) ?_
                      refine j_iconst G (0 : Int32) dX1_workerWaitsFor_184 (by decide) ?_
                      exact j_reti G () rfl dX1_workerWaitsFor_185 h rfl
                    · skip
                      by_cases c28 : x1 = (7 : Int32)
                      · refine j_tableIn G 184 dX1_workerWaitsFor_1 (by rw [c28]; decide) (by rw [c28]; decide) (by rw [c28] <;> rfl) (by decide) ?_
                        refine j_iconst G (0 : Int32) dX1_workerWaitsFor_184 (by decide) ?_
                        exact j_reti G () rfl dX1_workerWaitsFor_185 h rfl
                      · skip
                        by_cases c29 : x1 = (8 : Int32)
                        · refine j_tableIn G 184 dX1_workerWaitsFor_1 (by rw [c29]; decide) (by rw [c29]; decide) (by rw [c29] <;> rfl) (by decide) ?_
                          refine j_iconst G (0 : Int32) dX1_workerWaitsFor_184 (by decide) ?_
                          exact j_reti G () rfl dX1_workerWaitsFor_185 h rfl
                        · skip
                          by_cases c30 : x1 = (9 : Int32)
                          · refine j_tableIn G 184 dX1_workerWaitsFor_1 (by rw [c30]; decide) (by rw [c30]; decide) (by rw [c30] <;> rfl) (by decide) ?_
                            refine j_iconst G (0 : Int32) dX1_workerWaitsFor_184 (by decide) ?_
                            exact j_reti G () rfl dX1_workerWaitsFor_185 h rfl
                          · skip
                            by_cases c31 : x1 = (10 : Int32)
                            · refine j_tableIn G 184 dX1_workerWaitsFor_1 (by rw [c31]; decide) (by rw [c31]; decide) (by rw [c31] <;> rfl) (by decide) ?_
                              refine j_iconst G (0 : Int32) dX1_workerWaitsFor_184 (by decide) ?_
                              exact j_reti G () rfl dX1_workerWaitsFor_185 h rfl
                            · skip
                              by_cases c32 : x1 = (11 : Int32)
                              · refine j_tableIn G 184 dX1_workerWaitsFor_1 (by rw [c32]; decide) (by rw [c32]; decide) (by rw [c32] <;> rfl) (by decide) ?_
                                refine j_iconst G (0 : Int32) dX1_workerWaitsFor_184 (by decide) ?_
                                exact j_reti G () rfl dX1_workerWaitsFor_185 h rfl
                              · skip
                                by_cases c33 : x1 = (13 : Int32)
                                · refine j_tableIn G 184 dX1_workerWaitsFor_1 (by rw [c33]; decide) (by rw [c33]; decide) (by rw [c33] <;> rfl) (by decide) ?_
                                  refine j_iconst G (0 : Int32) dX1_workerWaitsFor_184 (by decide) ?_
                                  exact j_reti G () rfl dX1_workerWaitsFor_185 h rfl
                                · skip
                                  by_cases c34 : x1 = (14 : Int32)
                                  · refine j_tableIn G 184 dX1_workerWaitsFor_1 (by rw [c34]; decide) (by rw [c34]; decide) (by rw [c34] <;> rfl) (by decide) ?_
                                    refine j_iconst G (0 : Int32) dX1_workerWaitsFor_184 (by decide) ?_
                                    exact j_reti G () rfl dX1_workerWaitsFor_185 h rfl
                                  · skip
                                    by_cases c35 : x1 = (16 : Int32)
                                    · refine j_tableIn G 184 dX1_workerWaitsFor_1 (by rw [c35]; decide) (by rw [c35]; decide) (by rw [c35] <;> rfl) (by decide) ?_
                                      refine j_iconst G (0 : Int32) dX1_workerWaitsFor_184 (by decide) ?_
                                      exact j_reti G () rfl dX1_workerWaitsFor_185 h rfl
                                    · skip
                                      by_cases c36 : x1 = (18 : Int32)
                                      · refine j_tableIn G 184 dX1_workerWaitsFor_1 (by rw [c36]; decide) (by rw [c36]; decide) (by rw [c36] <;> rfl) (by decide) ?_
                                        refine j_iconst G (0 : Int32) dX1_workerWaitsFor_184 (by decide) ?_
                                        exact j_reti G () rfl dX1_workerWaitsFor_185 h rfl
                                      · skip
                                        have nc18 := sw_ne (n := 1) rfl c18
                                        have nc19 := sw_ne (n := 2) rfl c19
                                        have nc20 := sw_ne (n := 3) rfl c20
                                        have nc25 := sw_ne (n := 4) rfl c25
                                        have nc26 := sw_ne (n := 5) rfl c26
                                        have nc27 := sw_ne (n := 6) rfl c27
                                        have nc28 := sw_ne (n := 7) rfl c28
                                        have nc29 := sw_ne (n := 8) rfl c29
                                        have nc30 := sw_ne (n := 9) rfl c30
                                        have nc31 := sw_ne (n := 10) rfl c31
                                        have nc32 := sw_ne (n := 11) rfl c32
                                        have nc21 := sw_ne (n := 12) rfl c21
                                        have nc33 := sw_ne (n := 13) rfl c33
                                        have nc34 := sw_ne (n := 14) rfl c34
                                        have nc22 := sw_ne (n := 15) rfl c22
                                        have nc35 := sw_ne (n := 16) rfl c35
                                        have nc23 := sw_ne (n := 17) rfl c23
                                        have nc36 := sw_ne (n := 18) rfl c36
                                        have nc24 := sw_ne (n := 19) rfl c24
                                        refine j_tableOut G 184 dX1_workerWaitsFor_1 (by omega) (by decide) ?_
                                        refine j_iconst G (0 : Int32) dX1_workerWaitsFor_184 (by decide) ?_
                                        exact j_reti G () rfl dX1_workerWaitsFor_185 h rfl
abbrev rm_X1_ownOrCopy : Room := { frames := 1, cells := 0, slots := 0, locals := 21 }
def w_X1_ownOrCopy (a0 : Nat) (x1 : Int32) (I : MI) (Q : Int32 → MI → Prop) : Prop :=
(w_X9_isIn (I (a0 + 1) 4) x1 (fun r2 =>
((r2 = 0 → (vp_in x1 8 ∧
Q (I (a0 + 35) (ix x1)) I)) ∧
(¬ r2 = 0 → (w_X3_take (a0 + 48) I (fun r8 I9 =>
Q r8 I9))))))
set_option maxHeartbeats 4000000 in
set_option maxRecDepth 100000 in
theorem c_X1_ownOrCopy (K : Kx) (hW : WFK K) (l : Launch) (a0 : Nat) (x1 : Int32) (k0 : (kG K a0).1 = 3) (I : MI) (J : MJ) (B : MR) (Q : Int32 → MI → Prop) (h : w_X1_ownOrCopy a0 x1 I Q) : Con K l yX1_ownOrCopy (wsT yX1_ownOrCopy cX1_ownOrCopy 2 (some .int)) rm_X1_ownOrCopy [.ref a0, .int x1] (I, J, B) (va_Qi (S := MI) Q (fun u t => HP K (u, J, B) t.heap) (AA K)) := by
  refine Con.ofJ RX1 rfl (by decide) (Nat.le_of_ble_eq_true rfl) (fun m H0 w G => ?_)
  unfold w_X1_ownOrCopy at h
  show Jg K m 2 H0 w 0 [(0, .ref a0), (1, .int x1)] [] (I, J, B)
  refine j_aload_n G 0 0 dX1_ownOrCopy_0 rfl rfl ?_
  have kk1 : kG K (a0 + 1) = (4, 0) := wk_3_1 hW k0
  refine j_get G hW 2 0 4 (.ref (a0 + 1)) k0 (by decide) rfl (by decide) rfl lay_X1 fl_X1_12 rfl rfl dX1_ownOrCopy_1 ?_
  refine j_get G hW 3 4 0 (.int (I (a0 + 1) 4)) (congrArg Prod.fst kk1) (by decide) rfl (by decide) rfl lay_X2 fl_X1_244 rfl rfl dX1_ownOrCopy_4 ?_
  refine j_iload_n G 1 1 dX1_ownOrCopy_7 rfl rfl ?_
  refine j_ci (rn_N G (n := 2) (As := [.int (I (a0 + 1) 4), .int x1]) (rest := []) (c_X9_isIn K hW l (I (a0 + 1) 4) x1 I J B _ h) (List.mem_of_getElem? (i := 8) rfl) st_X9_isIn in_X9 co_X9_isIn (by decide +kernel) rfl rfl (by decide) (by decide) rfl rfl (Nat.le_of_ble_eq_true rfl) dX1_ownOrCopy_8) (fun r2 _ h => ?_)
  refine j_if_eq G 26 dX1_ownOrCopy_11 (by decide) (fun c3 => ?_) (fun c3 => ?_)
  · have h := h.1 c3
    refine j_aload_n G 0 0 dX1_ownOrCopy_26 rfl rfl ?_
    have kk4 : kG K (a0 + 35) = (20, 8) := wk_3_35 hW k0
    refine j_get G hW 2 1 38 (.ref (a0 + 35)) k0 (by decide) rfl (by decide) rfl lay_X1 fl_X1_18 rfl rfl dX1_ownOrCopy_27 ?_
    refine j_iload_n G 1 1 dX1_ownOrCopy_30 rfl rfl ?_
    obtain ⟨b5, h⟩ := h
    refine j_iald G hW kk4 b5 dX1_ownOrCopy_31 ?_
    exact j_reti G I rfl dX1_ownOrCopy_32 h rfl
  · have h := h.2 c3
    refine j_aload_n G 0 0 dX1_ownOrCopy_14 rfl rfl ?_
    have kk6 : kG K (a0 + 37) = (25, 6) := wk_3_37 hW k0
    refine j_get G hW 2 3 40 (.ref (a0 + 37)) k0 (by decide) rfl (by decide) rfl lay_X1 fl_X1_27 rfl rfl dX1_ownOrCopy_15 ?_
    refine j_iconst G (3 : Int32) dX1_ownOrCopy_18 (by decide) ?_
    have kk7 : (kG K (a0 + 48)).1 = 5 := wk_a25 (i := (3 : Int32)) hW kk6 (vpc rfl) (ad1 (j := 3) (by decide) rfl)
    refine j_aald25 G hW (i := (3 : Int32)) (b := a0 + 48) kk6 (vpc rfl) (ad1 (j := 3) (by decide) rfl) dX1_ownOrCopy_19 ?_
    refine j_ci (rn_V G hW (ci := 4) (n := 0) (As := []) (rest := []) (c_X3_take K hW l (a0 + 48) kk7 I J B _ h) kk7 (by decide) rfl ml_X1_157 im_X3_take se_X3_take in_X3 co_X3_take rfl (by decide +kernel) rfl rfl (by decide) (by decide) rfl rfl (Nat.le_of_ble_eq_true rfl) dX1_ownOrCopy_20) (fun r8 I9 h => ?_)
    refine j_goto G 32 dX1_ownOrCopy_23 (by decide) ?_
    exact j_reti G I9 rfl dX1_ownOrCopy_32 h rfl
abbrev rm_X1_workerDoes : Room := { frames := 2, cells := 0, slots := 0, locals := 42 }
def w_X1_workerDoes (a0 : Nat) (x1 : Int32) (a2 : Nat) (I : MI) (Q : Int32 → MI → Prop) : Prop :=
((x1 = (0 : Int32) → (vp_in (I a2 1) 8 ∧
(∀ I5, I5 = ui I (a0 + 35) (ix (I a2 1)) (I a2 4) →
Q ((I5 (a0 + 60) 1) + (1 : Int32)) I5))) ∧
(x1 = (6 : Int32) → Q (I a2 4) I) ∧
(x1 = (8 : Int32) → (∀ I6, I6 = ui I (a0 + 60) 4 (1 : Int32) →
Q (I6 (a0 + 60) 1) I6)) ∧
(x1 = (12 : Int32) → (w_X3_take (a0 + 39) I (fun r10 I11 =>
(vp_in (I a2 1) 8 ∧
(∀ I13, I13 = ui I11 (a0 + 35) (ix (I a2 1)) r10 →
Q ((I13 (a0 + 60) 1) + (1 : Int32)) I13))))) ∧
(x1 = (15 : Int32) → (vp_in (I a2 1) 8 ∧
(w_X3_add (a0 + 45) (I (a0 + 35) (ix (I a2 1))) (-1 : Int32) I (fun I18 =>
Q ((I18 (a0 + 60) 1) + (1 : Int32)) I18)))) ∧
(x1 = (17 : Int32) → (w_X3_take (a0 + 51) I (fun r21 I22 =>
((¬ r21 = (1 : Int32) → Q ((I22 (a0 + 60) 1) + (1 : Int32)) I22) ∧
(r21 = (1 : Int32) → Q (I22 a2 4) I22))))) ∧
(x1 = (19 : Int32) → (w_X1_ownOrCopy a0 (I a2 2) I (fun r24 I25 =>
(w_X1_ownOrCopy a0 (I25 a2 3) I25 (fun r26 I27 =>
(w_X0_decide a2 r24 r26 I27 (fun r28 =>
((r28 = 0 → (w_X3_add (a0 + 54) (0 : Int32) (-1 : Int32) I27 (fun I32 =>
((r28 = 0 → Q ((I32 (a0 + 60) 1) + (1 : Int32)) I32) ∧
(¬ r28 = 0 → Q (I32 a2 4) I32))))) ∧
(¬ r28 = 0 → (w_X3_add (a0 + 54) (1 : Int32) (-1 : Int32) I27 (fun I34 =>
((r28 = 0 → Q ((I34 (a0 + 60) 1) + (1 : Int32)) I34) ∧
(¬ r28 = 0 → Q (I34 a2 4) I34))))))))))))) ∧
(¬ x1 = (0 : Int32) → ¬ x1 = (6 : Int32) → ¬ x1 = (8 : Int32) → ¬ x1 = (12 : Int32) → ¬ x1 = (15 : Int32) → ¬ x1 = (17 : Int32) → ¬ x1 = (19 : Int32) → (w_X1_ownOrCopy a0 (I a2 2) I (fun r36 I37 =>
(w_X1_ownOrCopy a0 (I37 a2 3) I37 (fun r39 I40 =>
(w_X9_reckon x1 r36 r39 (fun r41 =>
(vp_in (I37 a2 1) 8 ∧
(∀ I43, I43 = ui I40 (a0 + 35) (ix (I37 a2 1)) r41 →
Q ((I43 (a0 + 60) 1) + (1 : Int32)) I43))))))))))
set_option maxHeartbeats 4000000 in
set_option maxRecDepth 100000 in
theorem c_X1_workerDoes (K : Kx) (hW : WFK K) (l : Launch) (a0 : Nat) (x1 : Int32) (a2 : Nat) (k0 : (kG K a0).1 = 3) (k2 : (kG K a2).1 = 2) (I : MI) (J : MJ) (B : MR) (Q : Int32 → MI → Prop) (h : w_X1_workerDoes a0 x1 a2 I Q) : Con K l yX1_workerDoes (wsT yX1_workerDoes cX1_workerDoes 7 (some .int)) rm_X1_workerDoes [.ref a0, .int x1, .ref a2] (I, J, B) (va_Qi (S := MI) Q (fun u t => HP K (u, J, B) t.heap) (AA K)) := by
  refine Con.ofJ RX1 rfl (by decide) (Nat.le_of_ble_eq_true rfl) (fun m H0 w G => ?_)
  unfold w_X1_workerDoes at h
  show Jg K m 7 H0 w 0 [(0, .ref a0), (1, .int x1), (2, .ref a2)] [] (I, J, B)
  refine j_aload_n G 0 0 dX1_workerDoes_0 rfl rfl ?_
  have kk1 : kG K (a0 + 38) = (26, 2) := wk_3_38 hW k0
  refine j_get G hW 2 4 41 (.ref (a0 + 38)) k0 (by decide) rfl (by decide) rfl lay_X1 fl_X1_33 rfl rfl dX1_workerDoes_1 ?_
  refine j_iconst G (1 : Int32) dX1_workerDoes_4 (by decide) ?_
  have kk2 : (kG K (a0 + 60)).1 = 7 := wk_a26 (i := (1 : Int32)) hW kk1 (vpc rfl) (ad1 (j := 1) (by decide) rfl)
  refine j_aald26 G hW (i := (1 : Int32)) (b := a0 + 60) kk1 (vpc rfl) (ad1 (j := 1) (by decide) rfl) dX1_workerDoes_5 ?_
  refine j_astore_n G 3 [(3, .ref (a0 + 60)), (0, .ref a0), (1, .int x1), (2, .ref a2)] dX1_workerDoes_6 rfl (by decide) rfl ?_
  refine j_iload_n G 2 1 dX1_workerDoes_7 rfl rfl ?_
  by_cases c44 : x1 = (0 : Int32)
  · have h := h.1 (c44)
    refine j_tableIn G 262 dX1_workerDoes_8 (by rw [c44]; decide) (by rw [c44]; decide) (by rw [c44] <;> rfl) (by decide) ?_
    refine j_aload_n G 1 0 dX1_workerDoes_262 rfl rfl ?_
    have kk3 : kG K (a0 + 35) = (20, 8) := wk_3_35 hW k0
    refine j_get G hW 2 1 38 (.ref (a0 + 35)) k0 (by decide) rfl (by decide) rfl lay_X1 fl_X1_18 rfl rfl dX1_workerDoes_263 ?_
    refine j_aload_n G 3 2 dX1_workerDoes_266 rfl rfl ?_
    refine j_get G hW 1 1 0 (.int (I a2 1)) k2 (by decide) rfl (by decide) rfl lay_X0 fl_X1_214 rfl rfl dX1_workerDoes_267 ?_
    refine j_aload_n G 3 2 dX1_workerDoes_270 rfl rfl ?_
    refine j_get G hW 1 4 0 (.int (I a2 4)) k2 (by decide) rfl (by decide) rfl lay_X0 fl_X1_227 rfl rfl dX1_workerDoes_271 ?_
    obtain ⟨b4, h⟩ := h
    refine j_iast G hW kk3 b4 dX1_workerDoes_274 ?_
    refine j_mI (fun I5 eI5 => ?_)
    have h := h I5 eI5
    refine j_aload_n G 0 3 dX1_workerDoes_275 rfl rfl ?_
    refine j_get G hW 6 1 0 (.int (I5 (a0 + 60) 1)) kk2 (by decide) rfl (by decide) rfl lay_X5 fl_X1_170 rfl rfl dX1_workerDoes_276 ?_
    refine j_iconst G (1 : Int32) dX1_workerDoes_279 (by decide) ?_
    refine j_iadd G dX1_workerDoes_280 ?_
    exact j_reti G I5 rfl dX1_workerDoes_281 h rfl
  · skip
    by_cases c45 : x1 = (6 : Int32)
    · have h := h.2.1 (c45)
      refine j_tableIn G 247 dX1_workerDoes_8 (by rw [c45]; decide) (by rw [c45]; decide) (by rw [c45] <;> rfl) (by decide) ?_
      refine j_aload_n G 3 2 dX1_workerDoes_247 rfl rfl ?_
      refine j_get G hW 1 4 0 (.int (I a2 4)) k2 (by decide) rfl (by decide) rfl lay_X0 fl_X1_227 rfl rfl dX1_workerDoes_248 ?_
      exact j_reti G I rfl dX1_workerDoes_251 h rfl
    · skip
      by_cases c46 : x1 = (8 : Int32)
      · have h := h.2.2.1 (c46)
        refine j_tableIn G 252 dX1_workerDoes_8 (by rw [c46]; decide) (by rw [c46]; decide) (by rw [c46] <;> rfl) (by decide) ?_
        refine j_aload_n G 0 3 dX1_workerDoes_252 rfl rfl ?_
        refine j_iconst G (1 : Int32) dX1_workerDoes_253 (by decide) ?_
        refine j_put G hW 6 4 tyX5 (tyX5 4) tyX5_ok nmX5 kk2 (by decide) rfl (by decide) rfl lay_X5 fl_X1_139 rfl rfl (tyX5_ok 4 (by decide)) (by decide) (by decide) dX1_workerDoes_254 ?_
        refine j_mI (fun I6 eI6 => ?_)
        have h := h I6 eI6
        refine j_aload_n G 0 3 dX1_workerDoes_257 rfl rfl ?_
        refine j_get G hW 6 1 0 (.int (I6 (a0 + 60) 1)) kk2 (by decide) rfl (by decide) rfl lay_X5 fl_X1_170 rfl rfl dX1_workerDoes_258 ?_
        exact j_reti G I6 rfl dX1_workerDoes_261 h rfl
      · skip
        by_cases c47 : x1 = (12 : Int32)
        · have h := h.2.2.2.1 (c47)
          refine j_tableIn G 104 dX1_workerDoes_8 (by rw [c47]; decide) (by rw [c47]; decide) (by rw [c47] <;> rfl) (by decide) ?_
          refine j_aload_n G 1 0 dX1_workerDoes_104 rfl rfl ?_
          have kk7 : kG K (a0 + 35) = (20, 8) := wk_3_35 hW k0
          refine j_get G hW 2 1 38 (.ref (a0 + 35)) k0 (by decide) rfl (by decide) rfl lay_X1 fl_X1_18 rfl rfl dX1_workerDoes_105 ?_
          refine j_aload_n G 3 2 dX1_workerDoes_108 rfl rfl ?_
          refine j_get G hW 1 1 0 (.int (I a2 1)) k2 (by decide) rfl (by decide) rfl lay_X0 fl_X1_214 rfl rfl dX1_workerDoes_109 ?_
          refine j_aload_n G 1 0 dX1_workerDoes_112 rfl rfl ?_
          have kk8 : kG K (a0 + 37) = (25, 6) := wk_3_37 hW k0
          refine j_get G hW 2 3 40 (.ref (a0 + 37)) k0 (by decide) rfl (by decide) rfl lay_X1 fl_X1_27 rfl rfl dX1_workerDoes_113 ?_
          refine j_iconst G (0 : Int32) dX1_workerDoes_116 (by decide) ?_
          have kk9 : (kG K (a0 + 39)).1 = 5 := wk_a25 (i := (0 : Int32)) hW kk8 (vpc rfl) (ad1 (j := 0) (by decide) rfl)
          refine j_aald25 G hW (i := (0 : Int32)) (b := a0 + 39) kk8 (vpc rfl) (ad1 (j := 0) (by decide) rfl) dX1_workerDoes_117 ?_
          refine j_ci (rn_V G hW (ci := 4) (n := 0) (As := []) (rest := [.int (I a2 1), .ref (a0 + 35)]) (c_X3_take K hW l (a0 + 39) kk9 I J B _ h) kk9 (by decide) rfl ml_X1_157 im_X3_take se_X3_take in_X3 co_X3_take rfl (by decide +kernel) rfl rfl (by decide) (by decide) rfl rfl (Nat.le_of_ble_eq_true rfl) dX1_workerDoes_118) (fun r10 I11 h => ?_)
          obtain ⟨b12, h⟩ := h
          refine j_iast G hW kk7 b12 dX1_workerDoes_121 ?_
          refine j_mI (fun I13 eI13 => ?_)
          have h := h I13 eI13
          refine j_aload_n G 0 3 dX1_workerDoes_122 rfl rfl ?_
          refine j_get G hW 6 1 0 (.int (I13 (a0 + 60) 1)) kk2 (by decide) rfl (by decide) rfl lay_X5 fl_X1_170 rfl rfl dX1_workerDoes_123 ?_
          refine j_iconst G (1 : Int32) dX1_workerDoes_126 (by decide) ?_
          refine j_iadd G dX1_workerDoes_127 ?_
          exact j_reti G I13 rfl dX1_workerDoes_128 h rfl
        · skip
          by_cases c48 : x1 = (15 : Int32)
          · have h := h.2.2.2.2.1 (c48)
            refine j_tableIn G 129 dX1_workerDoes_8 (by rw [c48]; decide) (by rw [c48]; decide) (by rw [c48] <;> rfl) (by decide) ?_
            refine j_aload_n G 1 0 dX1_workerDoes_129 rfl rfl ?_
            have kk14 : kG K (a0 + 37) = (25, 6) := wk_3_37 hW k0
            refine j_get G hW 2 3 40 (.ref (a0 + 37)) k0 (by decide) rfl (by decide) rfl lay_X1 fl_X1_27 rfl rfl dX1_workerDoes_130 ?_
            refine j_iconst G (2 : Int32) dX1_workerDoes_133 (by decide) ?_
            have kk15 : (kG K (a0 + 45)).1 = 5 := wk_a25 (i := (2 : Int32)) hW kk14 (vpc rfl) (ad1 (j := 2) (by decide) rfl)
            refine j_aald25 G hW (i := (2 : Int32)) (b := a0 + 45) kk14 (vpc rfl) (ad1 (j := 2) (by decide) rfl) dX1_workerDoes_134 ?_
            refine j_aload_n G 1 0 dX1_workerDoes_135 rfl rfl ?_
            have kk16 : kG K (a0 + 35) = (20, 8) := wk_3_35 hW k0
            refine j_get G hW 2 1 38 (.ref (a0 + 35)) k0 (by decide) rfl (by decide) rfl lay_X1 fl_X1_18 rfl rfl dX1_workerDoes_136 ?_
            refine j_aload_n G 3 2 dX1_workerDoes_139 rfl rfl ?_
            refine j_get G hW 1 1 0 (.int (I a2 1)) k2 (by decide) rfl (by decide) rfl lay_X0 fl_X1_214 rfl rfl dX1_workerDoes_140 ?_
            obtain ⟨b17, h⟩ := h
            refine j_iald G hW kk16 b17 dX1_workerDoes_143 ?_
            refine j_iconst G (-1 : Int32) dX1_workerDoes_144 (by decide) ?_
            refine j_cv (rn_V G hW (ci := 4) (n := 2) (As := [.int (I (a0 + 35) (ix (I a2 1))), .int (-1 : Int32)]) (rest := []) (c_X3_add K hW l (a0 + 45) (I (a0 + 35) (ix (I a2 1))) (-1 : Int32) kk15 I J B _ h) kk15 (by decide) rfl ml_X1_210 im_X3_add se_X3_add in_X3 co_X3_add rfl (by decide +kernel) rfl rfl (by decide) (by decide) rfl rfl (Nat.le_of_ble_eq_true rfl) dX1_workerDoes_145) (fun I18 h => ?_)
            refine j_aload_n G 0 3 dX1_workerDoes_148 rfl rfl ?_
            refine j_get G hW 6 1 0 (.int (I18 (a0 + 60) 1)) kk2 (by decide) rfl (by decide) rfl lay_X5 fl_X1_170 rfl rfl dX1_workerDoes_149 ?_
            refine j_iconst G (1 : Int32) dX1_workerDoes_152 (by decide) ?_
            refine j_iadd G dX1_workerDoes_153 ?_
            exact j_reti G I18 rfl dX1_workerDoes_154 h rfl
          · skip
            by_cases c49 : x1 = (17 : Int32)
            · have h := h.2.2.2.2.2.1 (c49)
              refine j_tableIn G 155 dX1_workerDoes_8 (by rw [c49]; decide) (by rw [c49]; decide) (by rw [c49] <;> rfl) (by decide) ?_
              refine j_aload_n G 1 0 dX1_workerDoes_155 rfl rfl ?_
              have kk19 : kG K (a0 + 37) = (25, 6) := wk_3_37 hW k0
              refine j_get G hW 2 3 40 (.ref (a0 + 37)) k0 (by decide) rfl (by decide) rfl lay_X1 fl_X1_27 rfl rfl dX1_workerDoes_156 ?_
              refine j_iconst G (4 : Int32) dX1_workerDoes_159 (by decide) ?_
              have kk20 : (kG K (a0 + 51)).1 = 5 := wk_a25 (i := (4 : Int32)) hW kk19 (vpc rfl) (ad1 (j := 4) (by decide) rfl)
              refine j_aald25 G hW (i := (4 : Int32)) (b := a0 + 51) kk19 (vpc rfl) (ad1 (j := 4) (by decide) rfl) dX1_workerDoes_160 ?_
              refine j_ci (rn_V G hW (ci := 4) (n := 0) (As := []) (rest := []) (c_X3_take K hW l (a0 + 51) kk20 I J B _ h) kk20 (by decide) rfl ml_X1_157 im_X3_take se_X3_take in_X3 co_X3_take rfl (by decide +kernel) rfl rfl (by decide) (by decide) rfl rfl (Nat.le_of_ble_eq_true rfl) dX1_workerDoes_161) (fun r21 I22 h => ?_)
              refine j_iconst G (1 : Int32) dX1_workerDoes_164 (by decide) ?_
              refine j_icmp_ne G 175 dX1_workerDoes_165 (by decide) (fun c23 => ?_) (fun c23 => ?_)
              · have h := h.1 c23
                refine j_aload_n G 0 3 dX1_workerDoes_175 rfl rfl ?_
                refine j_get G hW 6 1 0 (.int (I22 (a0 + 60) 1)) kk2 (by decide) rfl (by decide) rfl lay_X5 fl_X1_170 rfl rfl dX1_workerDoes_176 ?_
                refine j_iconst G (1 : Int32) dX1_workerDoes_179 (by decide) ?_
                refine j_iadd G dX1_workerDoes_180 ?_
                exact j_reti G I22 rfl dX1_workerDoes_181 h rfl
              · have h := h.2 c23
                refine j_aload_n G 3 2 dX1_workerDoes_168 rfl rfl ?_
                refine j_get G hW 1 4 0 (.int (I22 a2 4)) k2 (by decide) rfl (by decide) rfl lay_X0 fl_X1_227 rfl rfl dX1_workerDoes_169 ?_
                refine j_goto G 181 dX1_workerDoes_172 (by decide) ?_
                exact j_reti G I22 rfl dX1_workerDoes_181 h rfl
            · skip
              by_cases c50 : x1 = (19 : Int32)
              · have h := h.2.2.2.2.2.2.1 (c50)
                refine j_tableIn G 182 dX1_workerDoes_8 (by rw [c50]; decide) (by rw [c50]; decide) (by rw [c50] <;> rfl) (by decide) ?_
                refine j_aload_n G 1 0 dX1_workerDoes_182 rfl rfl ?_
                refine j_aload_n G 3 2 dX1_workerDoes_183 rfl rfl ?_
                refine j_get G hW 1 2 0 (.int (I a2 2)) k2 (by decide) rfl (by decide) rfl lay_X0 fl_X1_217 rfl rfl dX1_workerDoes_184 ?_
                refine j_ci (rn_V G hW (ci := 2) (n := 1) (As := [.int (I a2 2)]) (rest := []) (c_X1_ownOrCopy K hW l a0 (I a2 2) k0 I J B _ h) k0 (by decide) rfl ml_X1_250 im_X1_ownOrCopy se_X1_ownOrCopy in_X1 co_X1_ownOrCopy rfl (by decide +kernel) rfl rfl (by decide) (by decide) rfl rfl (Nat.le_of_ble_eq_true rfl) dX1_workerDoes_187) (fun r24 I25 h => ?_)
                refine j_istore G [(4, .int r24), (3, .ref (a0 + 60)), (0, .ref a0), (1, .int x1), (2, .ref a2)] dX1_workerDoes_190 (by decide) rfl ?_
                refine j_aload_n G 4 2 dX1_workerDoes_192 rfl rfl ?_
                refine j_iload G 0 dX1_workerDoes_193 rfl ?_
                refine j_aload_n G 2 0 dX1_workerDoes_195 rfl rfl ?_
                refine j_aload_n G 4 2 dX1_workerDoes_196 rfl rfl ?_
                refine j_get G hW 1 3 0 (.int (I25 a2 3)) k2 (by decide) rfl (by decide) rfl lay_X0 fl_X1_220 rfl rfl dX1_workerDoes_197 ?_
                refine j_ci (rn_V G hW (ci := 2) (n := 1) (As := [.int (I25 a2 3)]) (rest := [.int r24, .ref a2]) (c_X1_ownOrCopy K hW l a0 (I25 a2 3) k0 I25 J B _ h) k0 (by decide) rfl ml_X1_250 im_X1_ownOrCopy se_X1_ownOrCopy in_X1 co_X1_ownOrCopy rfl (by decide +kernel) rfl rfl (by decide) (by decide) rfl rfl (Nat.le_of_ble_eq_true rfl) dX1_workerDoes_200) (fun r26 I27 h => ?_)
                refine j_ci (rn_V G hW (ci := 1) (n := 2) (As := [.int r24, .int r26]) (rest := []) (c_X0_decide K hW l a2 r24 r26 k2 I27 J B _ h) k2 (by decide) rfl ml_X1_223 im_X0_decide se_X0_decide in_X0 co_X0_decide rfl (by decide +kernel) rfl rfl (by decide) (by decide) rfl rfl (Nat.le_of_ble_eq_true rfl) dX1_workerDoes_203) (fun r28 _ h => ?_)
                refine j_istore G [(5, .int r28), (4, .int r24), (3, .ref (a0 + 60)), (0, .ref a0), (1, .int x1), (2, .ref a2)] dX1_workerDoes_206 (by decide) rfl ?_
                refine j_aload_n G 3 0 dX1_workerDoes_208 rfl rfl ?_
                have kk29 : kG K (a0 + 37) = (25, 6) := wk_3_37 hW k0
                refine j_get G hW 2 3 40 (.ref (a0 + 37)) k0 (by decide) rfl (by decide) rfl lay_X1 fl_X1_27 rfl rfl dX1_workerDoes_209 ?_
                refine j_iconst G (5 : Int32) dX1_workerDoes_212 (by decide) ?_
                have kk30 : (kG K (a0 + 54)).1 = 5 := wk_a25 (i := (5 : Int32)) hW kk29 (vpc rfl) (ad1 (j := 5) (by decide) rfl)
                refine j_aald25 G hW (i := (5 : Int32)) (b := a0 + 54) kk29 (vpc rfl) (ad1 (j := 5) (by decide) rfl) dX1_workerDoes_213 ?_
                refine j_iload G 0 dX1_workerDoes_214 rfl ?_
                refine j_if_eq G 223 dX1_workerDoes_216 (by decide) (fun c31 => ?_) (fun c31 => ?_)
                · have h := h.1 c31
                  refine j_iconst G (0 : Int32) dX1_workerDoes_223 (by decide) ?_
                  refine j_iconst G (-1 : Int32) dX1_workerDoes_224 (by decide) ?_
                  refine j_cv (rn_V G hW (ci := 4) (n := 2) (As := [.int (0 : Int32), .int (-1 : Int32)]) (rest := []) (c_X3_add K hW l (a0 + 54) (0 : Int32) (-1 : Int32) kk30 I27 J B _ h) kk30 (by decide) rfl ml_X1_210 im_X3_add se_X3_add in_X3 co_X3_add rfl (by decide +kernel) rfl rfl (by decide) (by decide) rfl rfl (Nat.le_of_ble_eq_true rfl) dX1_workerDoes_225) (fun I32 h => ?_)
                  refine j_iload G 0 dX1_workerDoes_228 rfl ?_
                  refine j_if_eq G 240 dX1_workerDoes_230 (by decide) (fun c33 => ?_) (fun c33 => ?_)
                  · have h := h.1 c33
                    refine j_aload_n G 2 3 dX1_workerDoes_240 rfl rfl ?_
                    refine j_get G hW 6 1 0 (.int (I32 (a0 + 60) 1)) kk2 (by decide) rfl (by decide) rfl lay_X5 fl_X1_170 rfl rfl dX1_workerDoes_241 ?_
                    refine j_iconst G (1 : Int32) dX1_workerDoes_244 (by decide) ?_
                    refine j_iadd G dX1_workerDoes_245 ?_
                    exact j_reti G I32 rfl dX1_workerDoes_246 h rfl
                  · have h := h.2 c33
                    refine j_aload_n G 5 2 dX1_workerDoes_233 rfl rfl ?_
                    refine j_get G hW 1 4 0 (.int (I32 a2 4)) k2 (by decide) rfl (by decide) rfl lay_X0 fl_X1_227 rfl rfl dX1_workerDoes_234 ?_
                    refine j_goto G 246 dX1_workerDoes_237 (by decide) ?_
                    exact j_reti G I32 rfl dX1_workerDoes_246 h rfl
                · have h := h.2 c31
                  refine j_iconst G (1 : Int32) dX1_workerDoes_219 (by decide) ?_
                  refine j_goto G 224 dX1_workerDoes_220 (by decide) ?_
                  refine j_iconst G (-1 : Int32) dX1_workerDoes_224 (by decide) ?_
                  refine j_cv (rn_V G hW (ci := 4) (n := 2) (As := [.int (1 : Int32), .int (-1 : Int32)]) (rest := []) (c_X3_add K hW l (a0 + 54) (1 : Int32) (-1 : Int32) kk30 I27 J B _ h) kk30 (by decide) rfl ml_X1_210 im_X3_add se_X3_add in_X3 co_X3_add rfl (by decide +kernel) rfl rfl (by decide) (by decide) rfl rfl (Nat.le_of_ble_eq_true rfl) dX1_workerDoes_225) (fun I34 h => ?_)
                  refine j_iload G 0 dX1_workerDoes_228 rfl ?_
                  refine j_if_eq G 240 dX1_workerDoes_230 (by decide) (fun c35 => ?_) (fun c35 => ?_)
                  · have h := h.1 c35
                    refine j_aload_n G 2 3 dX1_workerDoes_240 rfl rfl ?_
                    refine j_get G hW 6 1 0 (.int (I34 (a0 + 60) 1)) kk2 (by decide) rfl (by decide) rfl lay_X5 fl_X1_170 rfl rfl dX1_workerDoes_241 ?_
                    refine j_iconst G (1 : Int32) dX1_workerDoes_244 (by decide) ?_
                    refine j_iadd G dX1_workerDoes_245 ?_
                    exact j_reti G I34 rfl dX1_workerDoes_246 h rfl
                  · have h := h.2 c35
                    refine j_aload_n G 5 2 dX1_workerDoes_233 rfl rfl ?_
                    refine j_get G hW 1 4 0 (.int (I34 a2 4)) k2 (by decide) rfl (by decide) rfl lay_X0 fl_X1_227 rfl rfl dX1_workerDoes_234 ?_
                    refine j_goto G 246 dX1_workerDoes_237 (by decide) ?_
                    exact j_reti G I34 rfl dX1_workerDoes_246 h rfl
              · skip
                have h := h.2.2.2.2.2.2.2 c44 c45 c46 c47 c48 c49 c50
                by_cases c51 : x1 = (1 : Int32)
                · refine j_tableIn G 282 dX1_workerDoes_8 (by rw [c51]; decide) (by rw [c51]; decide) (by rw [c51] <;> rfl) (by decide) ?_
                  refine j_aload_n G 1 0 dX1_workerDoes_282 rfl rfl ?_
                  refine j_aload_n G 3 2 dX1_workerDoes_283 rfl rfl ?_
                  refine j_get G hW 1 2 0 (.int (I a2 2)) k2 (by decide) rfl (by decide) rfl lay_X0 fl_X1_217 rfl rfl dX1_workerDoes_284 ?_
                  refine j_ci (rn_V G hW (ci := 2) (n := 1) (As := [.int (I a2 2)]) (rest := []) (c_X1_ownOrCopy K hW l a0 (I a2 2) k0 I J B _ h) k0 (by decide) rfl ml_X1_250 im_X1_ownOrCopy se_X1_ownOrCopy in_X1 co_X1_ownOrCopy rfl (by decide +kernel) rfl rfl (by decide) (by decide) rfl rfl (Nat.le_of_ble_eq_true rfl) dX1_workerDoes_287) (fun r36 I37 h => ?_)
                  refine j_istore G [(6, .int r36), (3, .ref (a0 + 60)), (0, .ref a0), (1, .int x1), (2, .ref a2)] dX1_workerDoes_290 (by decide) rfl ?_
                  refine j_aload_n G 2 0 dX1_workerDoes_292 rfl rfl ?_
                  have kk38 : kG K (a0 + 35) = (20, 8) := wk_3_35 hW k0
                  refine j_get G hW 2 1 38 (.ref (a0 + 35)) k0 (by decide) rfl (by decide) rfl lay_X1 fl_X1_18 rfl rfl dX1_workerDoes_293 ?_
                  refine j_aload_n G 4 2 dX1_workerDoes_296 rfl rfl ?_
                  refine j_get G hW 1 1 0 (.int (I37 a2 1)) k2 (by decide) rfl (by decide) rfl lay_X0 fl_X1_214 rfl rfl dX1_workerDoes_297 ?_
                  refine j_iload_n G 3 1 dX1_workerDoes_300 rfl rfl ?_
                  refine j_iload G 0 dX1_workerDoes_301 rfl ?_
                  refine j_aload_n G 2 0 dX1_workerDoes_303 rfl rfl ?_
                  refine j_aload_n G 4 2 dX1_workerDoes_304 rfl rfl ?_
                  refine j_get G hW 1 3 0 (.int (I37 a2 3)) k2 (by decide) rfl (by decide) rfl lay_X0 fl_X1_220 rfl rfl dX1_workerDoes_305 ?_
                  refine j_ci (rn_V G hW (ci := 2) (n := 1) (As := [.int (I37 a2 3)]) (rest := [.int r36, .int x1, .int (I37 a2 1), .ref (a0 + 35)]) (c_X1_ownOrCopy K hW l a0 (I37 a2 3) k0 I37 J B _ h) k0 (by decide) rfl ml_X1_250 im_X1_ownOrCopy se_X1_ownOrCopy in_X1 co_X1_ownOrCopy rfl (by decide +kernel) rfl rfl (by decide) (by decide) rfl rfl (Nat.le_of_ble_eq_true rfl) dX1_workerDoes_308) (fun r39 I40 h => ?_)
                  refine j_ci (rn_N G (n := 3) (As := [.int x1, .int r36, .int r39]) (rest := [.int (I37 a2 1), .ref (a0 + 35)]) (c_X9_reckon K hW l x1 r36 r39 I40 J B _ h) (List.mem_of_getElem? (i := 7) rfl) st_X9_reckon in_X9 co_X9_reckon (by decide +kernel) rfl rfl (by decide) (by decide) rfl rfl (Nat.le_of_ble_eq_true rfl) dX1_workerDoes_311) (fun r41 _ h => ?_)
                  obtain ⟨b42, h⟩ := h
                  refine j_iast G hW kk38 b42 dX1_workerDoes_314 ?_
                  refine j_mI (fun I43 eI43 => ?_)
                  have h := h I43 eI43
                  refine j_aload_n G 1 3 dX1_workerDoes_315 rfl rfl ?_
                  refine j_get G hW 6 1 0 (.int (I43 (a0 + 60) 1)) kk2 (by decide) rfl (by decide) rfl lay_X5 fl_X1_170 rfl rfl dX1_workerDoes_316 ?_
                  refine j_iconst G (1 : Int32) dX1_workerDoes_319 (by decide) ?_
                  refine j_iadd G dX1_workerDoes_320 ?_
                  exact j_reti G I43 rfl dX1_workerDoes_321 h rfl
                · skip
                  by_cases c52 : x1 = (2 : Int32)
                  · refine j_tableIn G 282 dX1_workerDoes_8 (by rw [c52]; decide) (by rw [c52]; decide) (by rw [c52] <;> rfl) (by decide) ?_
                    refine j_aload_n G 1 0 dX1_workerDoes_282 rfl rfl ?_
                    refine j_aload_n G 3 2 dX1_workerDoes_283 rfl rfl ?_
                    refine j_get G hW 1 2 0 (.int (I a2 2)) k2 (by decide) rfl (by decide) rfl lay_X0 fl_X1_217 rfl rfl dX1_workerDoes_284 ?_
                    refine j_ci (rn_V G hW (ci := 2) (n := 1) (As := [.int (I a2 2)]) (rest := []) (c_X1_ownOrCopy K hW l a0 (I a2 2) k0 I J B _ h) k0 (by decide) rfl ml_X1_250 im_X1_ownOrCopy se_X1_ownOrCopy in_X1 co_X1_ownOrCopy rfl (by decide +kernel) rfl rfl (by decide) (by decide) rfl rfl (Nat.le_of_ble_eq_true rfl) dX1_workerDoes_287) (fun r36 I37 h => ?_)
                    refine j_istore G [(6, .int r36), (3, .ref (a0 + 60)), (0, .ref a0), (1, .int x1), (2, .ref a2)] dX1_workerDoes_290 (by decide) rfl ?_
                    refine j_aload_n G 2 0 dX1_workerDoes_292 rfl rfl ?_
                    have kk38 : kG K (a0 + 35) = (20, 8) := wk_3_35 hW k0
                    refine j_get G hW 2 1 38 (.ref (a0 + 35)) k0 (by decide) rfl (by decide) rfl lay_X1 fl_X1_18 rfl rfl dX1_workerDoes_293 ?_
                    refine j_aload_n G 4 2 dX1_workerDoes_296 rfl rfl ?_
                    refine j_get G hW 1 1 0 (.int (I37 a2 1)) k2 (by decide) rfl (by decide) rfl lay_X0 fl_X1_214 rfl rfl dX1_workerDoes_297 ?_
                    refine j_iload_n G 3 1 dX1_workerDoes_300 rfl rfl ?_
                    refine j_iload G 0 dX1_workerDoes_301 rfl ?_
                    refine j_aload_n G 2 0 dX1_workerDoes_303 rfl rfl ?_
                    refine j_aload_n G 4 2 dX1_workerDoes_304 rfl rfl ?_
                    refine j_get G hW 1 3 0 (.int (I37 a2 3)) k2 (by decide) rfl (by decide) rfl lay_X0 fl_X1_220 rfl rfl dX1_workerDoes_305 ?_
                    refine j_ci (rn_V G hW (ci := 2) (n := 1) (As := [.int (I37 a2 3)]) (rest := [.int r36, .int x1, .int (I37 a2 1), .ref (a0 + 35)]) (c_X1_ownOrCopy K hW l a0 (I37 a2 3) k0 I37 J B _ h) k0 (by decide) rfl ml_X1_250 im_X1_ownOrCopy se_X1_ownOrCopy in_X1 co_X1_ownOrCopy rfl (by decide +kernel) rfl rfl (by decide) (by decide) rfl rfl (Nat.le_of_ble_eq_true rfl) dX1_workerDoes_308) (fun r39 I40 h => ?_)
                    refine j_ci (rn_N G (n := 3) (As := [.int x1, .int r36, .int r39]) (rest := [.int (I37 a2 1), .ref (a0 + 35)]) (c_X9_reckon K hW l x1 r36 r39 I40 J B _ h) (List.mem_of_getElem? (i := 7) rfl) st_X9_reckon in_X9 co_X9_reckon (by decide +kernel) rfl rfl (by decide) (by decide) rfl rfl (Nat.le_of_ble_eq_true rfl) dX1_workerDoes_311) (fun r41 _ h => ?_)
                    obtain ⟨b42, h⟩ := h
                    refine j_iast G hW kk38 b42 dX1_workerDoes_314 ?_
                    refine j_mI (fun I43 eI43 => ?_)
                    have h := h I43 eI43
                    refine j_aload_n G 1 3 dX1_workerDoes_315 rfl rfl ?_
                    refine j_get G hW 6 1 0 (.int (I43 (a0 + 60) 1)) kk2 (by decide) rfl (by decide) rfl lay_X5 fl_X1_170 rfl rfl dX1_workerDoes_316 ?_
                    refine j_iconst G (1 : Int32) dX1_workerDoes_319 (by decide) ?_
                    refine j_iadd G dX1_workerDoes_320 ?_
                    exact j_reti G I43 rfl dX1_workerDoes_321 h rfl
                  · skip
                    by_cases c53 : x1 = (3 : Int32)
                    · refine j_tableIn G 282 dX1_workerDoes_8 (by rw [c53]; decide) (by rw [c53]; decide) (by rw [c53] <;> rfl) (by decide) ?_
                      refine j_aload_n G 1 0 dX1_workerDoes_282 rfl rfl ?_
                      refine j_aload_n G 3 2 dX1_workerDoes_283 rfl rfl ?_
                      refine j_get G hW 1 2 0 (.int (I a2 2)) k2 (by decide) rfl (by decide) rfl lay_X0 fl_X1_217 rfl rfl dX1_workerDoes_284 ?_
                      refine j_ci (rn_V G hW (ci := 2) (n := 1) (As := [.int (I a2 2)]) (rest := []) (c_X1_ownOrCopy K hW l a0 (I a2 2) k0 I J B _ h) k0 (by decide) rfl ml_X1_250 im_X1_ownOrCopy se_X1_ownOrCopy in_X1 co_X1_ownOrCopy rfl (by decide +kernel) rfl rfl (by decide) (by decide) rfl rfl (Nat.le_of_ble_eq_true rfl) dX1_workerDoes_287) (fun r36 I37 h => ?_)
                      refine j_istore G [(6, .int r36), (3, .ref (a0 + 60)), (0, .ref a0), (1, .int x1), (2, .ref a2)] dX1_workerDoes_290 (by decide) rfl ?_
                      refine j_aload_n G 2 0 dX1_workerDoes_292 rfl rfl ?_
                      have kk38 : kG K (a0 + 35) = (20, 8) := wk_3_35 hW k0
                      refine j_get G hW 2 1 38 (.ref (a0 + 35)) k0 (by decide) rfl (by decide) rfl lay_X1 fl_X1_18 rfl rfl dX1_workerDoes_293 ?_
                      refine j_aload_n G 4 2 dX1_workerDoes_296 rfl rfl ?_
                      refine j_get G hW 1 1 0 (.int (I37 a2 1)) k2 (by decide) rfl (by decide) rfl lay_X0 fl_X1_214 rfl rfl dX1_workerDoes_297 ?_
                      refine j_iload_n G 3 1 dX1_workerDoes_300 rfl rfl ?_
                      refine j_iload G 0 dX1_workerDoes_301 rfl ?_
                      refine j_aload_n G 2 0 dX1_workerDoes_303 rfl rfl ?_
                      refine j_aload_n G 4 2 dX1_workerDoes_304 rfl rfl ?_
                      refine j_get G hW 1 3 0 (.int (I37 a2 3)) k2 (by decide) rfl (by decide) rfl lay_X0 fl_X1_220 rfl rfl dX1_workerDoes_305 ?_
                      refine j_ci (rn_V G hW (ci := 2) (n := 1) (As := [.int (I37 a2 3)]) (rest := [.int r36, .int x1, .int (I37 a2 1), .ref (a0 + 35)]) (c_X1_ownOrCopy K hW l a0 (I37 a2 3) k0 I37 J B _ h) k0 (by decide) rfl ml_X1_250 im_X1_ownOrCopy se_X1_ownOrCopy in_X1 co_X1_ownOrCopy rfl (by decide +kernel) rfl rfl (by decide) (by decide) rfl rfl (Nat.le_of_ble_eq_true rfl) dX1_workerDoes_308) (fun r39 I40 h => ?_)
                      refine j_ci (rn_N G (n := 3) (As := [.int x1, .int r36, .int r39]) (rest := [.int (I37 a2 1), .ref (a0 + 35)]) (c_X9_reckon K hW l x1 r36 r39 I40 J B _ h) (List.mem_of_getElem? (i := 7) rfl) st_X9_reckon in_X9 co_X9_reckon (by decide +kernel) rfl rfl (by decide) (by decide) rfl rfl (Nat.le_of_ble_eq_true rfl) dX1_workerDoes_311) (fun r41 _ h => ?_)
                      obtain ⟨b42, h⟩ := h
                      refine j_iast G hW kk38 b42 dX1_workerDoes_314 ?_
                      refine j_mI (fun I43 eI43 => ?_)
                      have h := h I43 eI43
                      refine j_aload_n G 1 3 dX1_workerDoes_315 rfl rfl ?_
                      refine j_get G hW 6 1 0 (.int (I43 (a0 + 60) 1)) kk2 (by decide) rfl (by decide) rfl lay_X5 fl_X1_170 rfl rfl dX1_workerDoes_316 ?_
                      refine j_iconst G (1 : Int32) dX1_workerDoes_319 (by decide) ?_
                      refine j_iadd G dX1_workerDoes_320 ?_
                      exact j_reti G I43 rfl dX1_workerDoes_321 h rfl
                    · skip
                      by_cases c54 : x1 = (4 : Int32)
                      · refine j_tableIn G 282 dX1_workerDoes_8 (by rw [c54]; decide) (by rw [c54]; decide) (by rw [c54] <;> rfl) (by decide) ?_
                        refine j_aload_n G 1 0 dX1_workerDoes_282 rfl rfl ?_
                        refine j_aload_n G 3 2 dX1_workerDoes_283 rfl rfl ?_
                        refine j_get G hW 1 2 0 (.int (I a2 2)) k2 (by decide) rfl (by decide) rfl lay_X0 fl_X1_217 rfl rfl dX1_workerDoes_284 ?_
                        refine j_ci (rn_V G hW (ci := 2) (n := 1) (As := [.int (I a2 2)]) (rest := []) (c_X1_ownOrCopy K hW l a0 (I a2 2) k0 I J B _ h) k0 (by decide) rfl ml_X1_250 im_X1_ownOrCopy se_X1_ownOrCopy in_X1 co_X1_ownOrCopy rfl (by decide +kernel) rfl rfl (by decide) (by decide) rfl rfl (Nat.le_of_ble_eq_true rfl) dX1_workerDoes_287) (fun r36 I37 h => ?_)
                        refine j_istore G [(6, .int r36), (3, .ref (a0 + 60)), (0, .ref a0), (1, .int x1), (2, .ref a2)] dX1_workerDoes_290 (by decide) rfl ?_
                        refine j_aload_n G 2 0 dX1_workerDoes_292 rfl rfl ?_
                        have kk38 : kG K (a0 + 35) = (20, 8) := wk_3_35 hW k0
                        refine j_get G hW 2 1 38 (.ref (a0 + 35)) k0 (by decide) rfl (by decide) rfl lay_X1 fl_X1_18 rfl rfl dX1_workerDoes_293 ?_
                        refine j_aload_n G 4 2 dX1_workerDoes_296 rfl rfl ?_
                        refine j_get G hW 1 1 0 (.int (I37 a2 1)) k2 (by decide) rfl (by decide) rfl lay_X0 fl_X1_214 rfl rfl dX1_workerDoes_297 ?_
                        refine j_iload_n G 3 1 dX1_workerDoes_300 rfl rfl ?_
                        refine j_iload G 0 dX1_workerDoes_301 rfl ?_
                        refine j_aload_n G 2 0 dX1_workerDoes_303 rfl rfl ?_
                        refine j_aload_n G 4 2 dX1_workerDoes_304 rfl rfl ?_
                        refine j_get G hW 1 3 0 (.int (I37 a2 3)) k2 (by decide) rfl (by decide) rfl lay_X0 fl_X1_220 rfl rfl dX1_workerDoes_305 ?_
                        refine j_ci (rn_V G hW (ci := 2) (n := 1) (As := [.int (I37 a2 3)]) (rest := [.int r36, .int x1, .int (I37 a2 1), .ref (a0 + 35)]) (c_X1_ownOrCopy K hW l a0 (I37 a2 3) k0 I37 J B _ h) k0 (by decide) rfl ml_X1_250 im_X1_ownOrCopy se_X1_ownOrCopy in_X1 co_X1_ownOrCopy rfl (by decide +kernel) rfl rfl (by decide) (by decide) rfl rfl (Nat.le_of_ble_eq_true rfl) dX1_workerDoes_308) (fun r39 I40 h => ?_)
                        refine j_ci (rn_N G (n := 3) (As := [.int x1, .int r36, .int r39]) (rest := [.int (I37 a2 1), .ref (a0 + 35)]) (c_X9_reckon K hW l x1 r36 r39 I40 J B _ h) (List.mem_of_getElem? (i := 7) rfl) st_X9_reckon in_X9 co_X9_reckon (by decide +kernel) rfl rfl (by decide) (by decide) rfl rfl (Nat.le_of_ble_eq_true rfl) dX1_workerDoes_311) (fun r41 _ h => ?_)
                        obtain ⟨b42, h⟩ := h
                        refine j_iast G hW kk38 b42 dX1_workerDoes_314 ?_
                        refine j_mI (fun I43 eI43 => ?_)
                        have h := h I43 eI43
                        refine j_aload_n G 1 3 dX1_workerDoes_315 rfl rfl ?_
                        refine j_get G hW 6 1 0 (.int (I43 (a0 + 60) 1)) kk2 (by decide) rfl (by decide) rfl lay_X5 fl_X1_170 rfl rfl dX1_workerDoes_316 ?_
                        refine j_iconst G (1 : Int32) dX1_workerDoes_319 (by decide) ?_
                        refine j_iadd G dX1_workerDoes_320 ?_
                        exact j_reti G I43 rfl dX1_workerDoes_321 h rfl
                      · skip
                        by_cases c55 : x1 = (5 : Int32)
                        · refine j_tableIn G 282 dX1_workerDoes_8 (by rw [c55]; decide) (by rw [c55]; decide) (by rw [c55] <;> rfl) (by decide) ?_
                          refine j_aload_n G 1 0 dX1_workerDoes_282 rfl rfl ?_
                          refine j_aload_n G 3 2 dX1_workerDoes_283 rfl rfl ?_
                          refine j_get G hW 1 2 0 (.int (I a2 2)) k2 (by decide) rfl (by decide) rfl lay_X0 fl_X1_217 rfl rfl dX1_workerDoes_284 ?_
                          refine j_ci (rn_V G hW (ci := 2) (n := 1) (As := [.int (I a2 2)]) (rest := []) (c_X1_ownOrCopy K hW l a0 (I a2 2) k0 I J B _ h) k0 (by decide) rfl ml_X1_250 im_X1_ownOrCopy se_X1_ownOrCopy in_X1 co_X1_ownOrCopy rfl (by decide +kernel) rfl rfl (by decide) (by decide) rfl rfl (Nat.le_of_ble_eq_true rfl) dX1_workerDoes_287) (fun r36 I37 h => ?_)
                          refine j_istore G [(6, .int r36), (3, .ref (a0 + 60)), (0, .ref a0), (1, .int x1), (2, .ref a2)] dX1_workerDoes_290 (by decide) rfl ?_
                          refine j_aload_n G 2 0 dX1_workerDoes_292 rfl rfl ?_
                          have kk38 : kG K (a0 + 35) = (20, 8) := wk_3_35 hW k0
                          refine j_get G hW 2 1 38 (.ref (a0 + 35)) k0 (by decide) rfl (by decide) rfl lay_X1 fl_X1_18 rfl rfl dX1_workerDoes_293 ?_
                          refine j_aload_n G 4 2 dX1_workerDoes_296 rfl rfl ?_
                          refine j_get G hW 1 1 0 (.int (I37 a2 1)) k2 (by decide) rfl (by decide) rfl lay_X0 fl_X1_214 rfl rfl dX1_workerDoes_297 ?_
                          refine j_iload_n G 3 1 dX1_workerDoes_300 rfl rfl ?_
                          refine j_iload G 0 dX1_workerDoes_301 rfl ?_
                          refine j_aload_n G 2 0 dX1_workerDoes_303 rfl rfl ?_
                          refine j_aload_n G 4 2 dX1_workerDoes_304 rfl rfl ?_
                          refine j_get G hW 1 3 0 (.int (I37 a2 3)) k2 (by decide) rfl (by decide) rfl lay_X0 fl_X1_220 rfl rfl dX1_workerDoes_305 ?_
                          refine j_ci (rn_V G hW (ci := 2) (n := 1) (As := [.int (I37 a2 3)]) (rest := [.int r36, .int x1, .int (I37 a2 1), .ref (a0 + 35)]) (c_X1_ownOrCopy K hW l a0 (I37 a2 3) k0 I37 J B _ h) k0 (by decide) rfl ml_X1_250 im_X1_ownOrCopy se_X1_ownOrCopy in_X1 co_X1_ownOrCopy rfl (by decide +kernel) rfl rfl (by decide) (by decide) rfl rfl (Nat.le_of_ble_eq_true rfl) dX1_workerDoes_308) (fun r39 I40 h => ?_)
                          refine j_ci (rn_N G (n := 3) (As := [.int x1, .int r36, .int r39]) (rest := [.int (I37 a2 1), .ref (a0 + 35)]) (c_X9_reckon K hW l x1 r36 r39 I40 J B _ h) (List.mem_of_getElem? (i := 7) rfl) st_X9_reckon in_X9 co_X9_reckon (by decide +kernel) rfl rfl (by decide) (by decide) rfl rfl (Nat.le_of_ble_eq_true rfl) dX1_workerDoes_311) (fun r41 _ h => ?_)
                          obtain ⟨b42, h⟩ := h
                          refine j_iast G hW kk38 b42 dX1_workerDoes_314 ?_
                          refine j_mI (fun I43 eI43 => ?_)
                          have h := h I43 eI43
                          refine j_aload_n G 1 3 dX1_workerDoes_315 rfl rfl ?_
                          refine j_get G hW 6 1 0 (.int (I43 (a0 + 60) 1)) kk2 (by decide) rfl (by decide) rfl lay_X5 fl_X1_170 rfl rfl dX1_workerDoes_316 ?_
                          refine j_iconst G (1 : Int32) dX1_workerDoes_319 (by decide) ?_
                          refine j_iadd G dX1_workerDoes_320 ?_
                          exact j_reti G I43 rfl dX1_workerDoes_321 h rfl
                        · skip
                          by_cases c56 : x1 = (7 : Int32)
                          · refine j_tableIn G 282 dX1_workerDoes_8 (by rw [c56]; decide) (by rw [c56]; decide) (by rw [c56] <;> rfl) (by decide) ?_
                            refine j_aload_n G 1 0 dX1_workerDoes_282 rfl rfl ?_
                            refine j_aload_n G 3 2 dX1_workerDoes_283 rfl rfl ?_
                            refine j_get G hW 1 2 0 (.int (I a2 2)) k2 (by decide) rfl (by decide) rfl lay_X0 fl_X1_217 rfl rfl dX1_workerDoes_284 ?_
                            refine j_ci (rn_V G hW (ci := 2) (n := 1) (As := [.int (I a2 2)]) (rest := []) (c_X1_ownOrCopy K hW l a0 (I a2 2) k0 I J B _ h) k0 (by decide) rfl ml_X1_250 im_X1_ownOrCopy se_X1_ownOrCopy in_X1 co_X1_ownOrCopy rfl (by decide +kernel) rfl rfl (by decide) (by decide) rfl rfl (Nat.le_of_ble_eq_true rfl) dX1_workerDoes_287) (fun r36 I37 h => ?_)
                            refine j_istore G [(6, .int r36), (3, .ref (a0 + 60)), (0, .ref a0), (1, .int x1), (2, .ref a2)] dX1_workerDoes_290 (by decide) rfl ?_
                            refine j_aload_n G 2 0 dX1_workerDoes_292 rfl rfl ?_
                            have kk38 : kG K (a0 + 35) = (20, 8) := wk_3_35 hW k0
                            refine j_get G hW 2 1 38 (.ref (a0 + 35)) k0 (by decide) rfl (by decide) rfl lay_X1 fl_X1_18 rfl rfl dX1_workerDoes_293 ?_
                            refine j_aload_n G 4 2 dX1_workerDoes_296 rfl rfl ?_
                            refine j_get G hW 1 1 0 (.int (I37 a2 1)) k2 (by decide) rfl (by decide) rfl lay_X0 fl_X1_214 rfl rfl dX1_workerDoes_297 ?_
                            refine j_iload_n G 3 1 dX1_workerDoes_300 rfl rfl ?_
                            refine j_iload G 0 dX1_workerDoes_301 rfl ?_
                            refine j_aload_n G 2 0 dX1_workerDoes_303 rfl rfl ?_
                            refine j_aload_n G 4 2 dX1_workerDoes_304 rfl rfl ?_
                            refine j_get G hW 1 3 0 (.int (I37 a2 3)) k2 (by decide) rfl (by decide) rfl lay_X0 fl_X1_220 rfl rfl dX1_workerDoes_305 ?_
                            refine j_ci (rn_V G hW (ci := 2) (n := 1) (As := [.int (I37 a2 3)]) (rest := [.int r36, .int x1, .int (I37 a2 1), .ref (a0 + 35)]) (c_X1_ownOrCopy K hW l a0 (I37 a2 3) k0 I37 J B _ h) k0 (by decide) rfl ml_X1_250 im_X1_ownOrCopy se_X1_ownOrCopy in_X1 co_X1_ownOrCopy rfl (by decide +kernel) rfl rfl (by decide) (by decide) rfl rfl (Nat.le_of_ble_eq_true rfl) dX1_workerDoes_308) (fun r39 I40 h => ?_)
                            refine j_ci (rn_N G (n := 3) (As := [.int x1, .int r36, .int r39]) (rest := [.int (I37 a2 1), .ref (a0 + 35)]) (c_X9_reckon K hW l x1 r36 r39 I40 J B _ h) (List.mem_of_getElem? (i := 7) rfl) st_X9_reckon in_X9 co_X9_reckon (by decide +kernel) rfl rfl (by decide) (by decide) rfl rfl (Nat.le_of_ble_eq_true rfl) dX1_workerDoes_311) (fun r41 _ h => ?_)
                            obtain ⟨b42, h⟩ := h
                            refine j_iast G hW kk38 b42 dX1_workerDoes_314 ?_
                            refine j_mI (fun I43 eI43 => ?_)
                            have h := h I43 eI43
                            refine j_aload_n G 1 3 dX1_workerDoes_315 rfl rfl ?_
                            refine j_get G hW 6 1 0 (.int (I43 (a0 + 60) 1)) kk2 (by decide) rfl (by decide) rfl lay_X5 fl_X1_170 rfl rfl dX1_workerDoes_316 ?_
                            refine j_iconst G (1 : Int32) dX1_workerDoes_319 (by decide) ?_
                            refine j_iadd G dX1_workerDoes_320 ?_
                            exact j_reti G I43 rfl dX1_workerDoes_321 h rfl
                          · skip
                            by_cases c57 : x1 = (9 : Int32)
                            · refine j_tableIn G 282 dX1_workerDoes_8 (by rw [c57]; decide) (by rw [c57]; decide) (by rw [c57] <;> rfl) (by decide) ?_
                              refine j_aload_n G 1 0 dX1_workerDoes_282 rfl rfl ?_
                              refine j_aload_n G 3 2 dX1_workerDoes_283 rfl rfl ?_
                              refine j_get G hW 1 2 0 (.int (I a2 2)) k2 (by decide) rfl (by decide) rfl lay_X0 fl_X1_217 rfl rfl dX1_workerDoes_284 ?_
                              refine j_ci (rn_V G hW (ci := 2) (n := 1) (As := [.int (I a2 2)]) (rest := []) (c_X1_ownOrCopy K hW l a0 (I a2 2) k0 I J B _ h) k0 (by decide) rfl ml_X1_250 im_X1_ownOrCopy se_X1_ownOrCopy in_X1 co_X1_ownOrCopy rfl (by decide +kernel) rfl rfl (by decide) (by decide) rfl rfl (Nat.le_of_ble_eq_true rfl) dX1_workerDoes_287) (fun r36 I37 h => ?_)
                              refine j_istore G [(6, .int r36), (3, .ref (a0 + 60)), (0, .ref a0), (1, .int x1), (2, .ref a2)] dX1_workerDoes_290 (by decide) rfl ?_
                              refine j_aload_n G 2 0 dX1_workerDoes_292 rfl rfl ?_
                              have kk38 : kG K (a0 + 35) = (20, 8) := wk_3_35 hW k0
                              refine j_get G hW 2 1 38 (.ref (a0 + 35)) k0 (by decide) rfl (by decide) rfl lay_X1 fl_X1_18 rfl rfl dX1_workerDoes_293 ?_
                              refine j_aload_n G 4 2 dX1_workerDoes_296 rfl rfl ?_
                              refine j_get G hW 1 1 0 (.int (I37 a2 1)) k2 (by decide) rfl (by decide) rfl lay_X0 fl_X1_214 rfl rfl dX1_workerDoes_297 ?_
                              refine j_iload_n G 3 1 dX1_workerDoes_300 rfl rfl ?_
                              refine j_iload G 0 dX1_workerDoes_301 rfl ?_
                              refine j_aload_n G 2 0 dX1_workerDoes_303 rfl rfl ?_
                              refine j_aload_n G 4 2 dX1_workerDoes_304 rfl rfl ?_
                              refine j_get G hW 1 3 0 (.int (I37 a2 3)) k2 (by decide) rfl (by decide) rfl lay_X0 fl_X1_220 rfl rfl dX1_workerDoes_305 ?_
                              refine j_ci (rn_V G hW (ci := 2) (n := 1) (As := [.int (I37 a2 3)]) (rest := [.int r36, .int x1, .int (I37 a2 1), .ref (a0 + 35)]) (c_X1_ownOrCopy K hW l a0 (I37 a2 3) k0 I37 J B _ h) k0 (by decide) rfl ml_X1_250 im_X1_ownOrCopy se_X1_ownOrCopy in_X1 co_X1_ownOrCopy rfl (by decide +kernel) rfl rfl (by decide) (by decide) rfl rfl (Nat.le_of_ble_eq_true rfl) dX1_workerDoes_308) (fun r39 I40 h => ?_)
                              refine j_ci (rn_N G (n := 3) (As := [.int x1, .int r36, .int r39]) (rest := [.int (I37 a2 1), .ref (a0 + 35)]) (c_X9_reckon K hW l x1 r36 r39 I40 J B _ h) (List.mem_of_getElem? (i := 7) rfl) st_X9_reckon in_X9 co_X9_reckon (by decide +kernel) rfl rfl (by decide) (by decide) rfl rfl (Nat.le_of_ble_eq_true rfl) dX1_workerDoes_311) (fun r41 _ h => ?_)
                              obtain ⟨b42, h⟩ := h
                              refine j_iast G hW kk38 b42 dX1_workerDoes_314 ?_
                              refine j_mI (fun I43 eI43 => ?_)
                              have h := h I43 eI43
                              refine j_aload_n G 1 3 dX1_workerDoes_315 rfl rfl ?_
                              refine j_get G hW 6 1 0 (.int (I43 (a0 + 60) 1)) kk2 (by decide) rfl (by decide) rfl lay_X5 fl_X1_170 rfl rfl dX1_workerDoes_316 ?_
                              refine j_iconst G (1 : Int32) dX1_workerDoes_319 (by decide) ?_
                              refine j_iadd G dX1_workerDoes_320 ?_
                              exact j_reti G I43 rfl dX1_workerDoes_321 h rfl
                            · skip
                              by_cases c58 : x1 = (10 : Int32)
                              · refine j_tableIn G 282 dX1_workerDoes_8 (by rw [c58]; decide) (by rw [c58]; decide) (by rw [c58] <;> rfl) (by decide) ?_
                                refine j_aload_n G 1 0 dX1_workerDoes_282 rfl rfl ?_
                                refine j_aload_n G 3 2 dX1_workerDoes_283 rfl rfl ?_
                                refine j_get G hW 1 2 0 (.int (I a2 2)) k2 (by decide) rfl (by decide) rfl lay_X0 fl_X1_217 rfl rfl dX1_workerDoes_284 ?_
                                refine j_ci (rn_V G hW (ci := 2) (n := 1) (As := [.int (I a2 2)]) (rest := []) (c_X1_ownOrCopy K hW l a0 (I a2 2) k0 I J B _ h) k0 (by decide) rfl ml_X1_250 im_X1_ownOrCopy se_X1_ownOrCopy in_X1 co_X1_ownOrCopy rfl (by decide +kernel) rfl rfl (by decide) (by decide) rfl rfl (Nat.le_of_ble_eq_true rfl) dX1_workerDoes_287) (fun r36 I37 h => ?_)
                                refine j_istore G [(6, .int r36), (3, .ref (a0 + 60)), (0, .ref a0), (1, .int x1), (2, .ref a2)] dX1_workerDoes_290 (by decide) rfl ?_
                                refine j_aload_n G 2 0 dX1_workerDoes_292 rfl rfl ?_
                                have kk38 : kG K (a0 + 35) = (20, 8) := wk_3_35 hW k0
                                refine j_get G hW 2 1 38 (.ref (a0 + 35)) k0 (by decide) rfl (by decide) rfl lay_X1 fl_X1_18 rfl rfl dX1_workerDoes_293 ?_
                                refine j_aload_n G 4 2 dX1_workerDoes_296 rfl rfl ?_
                                refine j_get G hW 1 1 0 (.int (I37 a2 1)) k2 (by decide) rfl (by decide) rfl lay_X0 fl_X1_214 rfl rfl dX1_workerDoes_297 ?_
                                refine j_iload_n G 3 1 dX1_workerDoes_300 rfl rfl ?_
                                refine j_iload G 0 dX1_workerDoes_301 rfl ?_
                                refine j_aload_n G 2 0 dX1_workerDoes_303 rfl rfl ?_
                                refine j_aload_n G 4 2 dX1_workerDoes_304 rfl rfl ?_
                                refine j_get G hW 1 3 0 (.int (I37 a2 3)) k2 (by decide) rfl (by decide) rfl lay_X0 fl_X1_220 rfl rfl dX1_workerDoes_305 ?_
                                refine j_ci (rn_V G hW (ci := 2) (n := 1) (As := [.int (I37 a2 3)]) (rest := [.int r36, .int x1, .int (I37 a2 1), .ref (a0 + 35)]) (c_X1_ownOrCopy K hW l a0 (I37 a2 3) k0 I37 J B _ h) k0 (by decide) rfl ml_X1_250 im_X1_ownOrCopy se_X1_ownOrCopy in_X1 co_X1_ownOrCopy rfl (by decide +kernel) rfl rfl (by decide) (by decide) rfl rfl (Nat.le_of_ble_eq_true rfl) dX1_workerDoes_308) (fun r39 I40 h => ?_)
                                refine j_ci (rn_N G (n := 3) (As := [.int x1, .int r36, .int r39]) (rest := [.int (I37 a2 1), .ref (a0 + 35)]) (c_X9_reckon K hW l x1 r36 r39 I40 J B _ h) (List.mem_of_getElem? (i := 7) rfl) st_X9_reckon in_X9 co_X9_reckon (by decide +kernel) rfl rfl (by decide) (by decide) rfl rfl (Nat.le_of_ble_eq_true rfl) dX1_workerDoes_311) (fun r41 _ h => ?_)
                                obtain ⟨b42, h⟩ := h
                                refine j_iast G hW kk38 b42 dX1_workerDoes_314 ?_
                                refine j_mI (fun I43 eI43 => ?_)
                                have h := h I43 eI43
                                refine j_aload_n G 1 3 dX1_workerDoes_315 rfl rfl ?_
                                refine j_get G hW 6 1 0 (.int (I43 (a0 + 60) 1)) kk2 (by decide) rfl (by decide) rfl lay_X5 fl_X1_170 rfl rfl dX1_workerDoes_316 ?_
                                refine j_iconst G (1 : Int32) dX1_workerDoes_319 (by decide) ?_
                                refine j_iadd G dX1_workerDoes_320 ?_
                                exact j_reti G I43 rfl dX1_workerDoes_321 h rfl
                              · skip
                                by_cases c59 : x1 = (11 : Int32)
                                · refine j_tableIn G 282 dX1_workerDoes_8 (by rw [c59]; decide) (by rw [c59]; decide) (by rw [c59] <;> rfl) (by decide) ?_
                                  refine j_aload_n G 1 0 dX1_workerDoes_282 rfl rfl ?_
                                  refine j_aload_n G 3 2 dX1_workerDoes_283 rfl rfl ?_
                                  refine j_get G hW 1 2 0 (.int (I a2 2)) k2 (by decide) rfl (by decide) rfl lay_X0 fl_X1_217 rfl rfl dX1_workerDoes_284 ?_
                                  refine j_ci (rn_V G hW (ci := 2) (n := 1) (As := [.int (I a2 2)]) (rest := []) (c_X1_ownOrCopy K hW l a0 (I a2 2) k0 I J B _ h) k0 (by decide) rfl ml_X1_250 im_X1_ownOrCopy se_X1_ownOrCopy in_X1 co_X1_ownOrCopy rfl (by decide +kernel) rfl rfl (by decide) (by decide) rfl rfl (Nat.le_of_ble_eq_true rfl) dX1_workerDoes_287) (fun r36 I37 h => ?_)
                                  refine j_istore G [(6, .int r36), (3, .ref (a0 + 60)), (0, .ref a0), (1, .int x1), (2, .ref a2)] dX1_workerDoes_290 (by decide) rfl ?_
                                  refine j_aload_n G 2 0 dX1_workerDoes_292 rfl rfl ?_
                                  have kk38 : kG K (a0 + 35) = (20, 8) := wk_3_35 hW k0
                                  refine j_get G hW 2 1 38 (.ref (a0 + 35)) k0 (by decide) rfl (by decide) rfl lay_X1 fl_X1_18 rfl rfl dX1_workerDoes_293 ?_
                                  refine j_aload_n G 4 2 dX1_workerDoes_296 rfl rfl ?_
                                  refine j_get G hW 1 1 0 (.int (I37 a2 1)) k2 (by decide) rfl (by decide) rfl lay_X0 fl_X1_214 rfl rfl dX1_workerDoes_297 ?_
                                  refine j_iload_n G 3 1 dX1_workerDoes_300 rfl rfl ?_
                                  refine j_iload G 0 dX1_workerDoes_301 rfl ?_
                                  refine j_aload_n G 2 0 dX1_workerDoes_303 rfl rfl ?_
                                  refine j_aload_n G 4 2 dX1_workerDoes_304 rfl rfl ?_
                                  refine j_get G hW 1 3 0 (.int (I37 a2 3)) k2 (by decide) rfl (by decide) rfl lay_X0 fl_X1_220 rfl rfl dX1_workerDoes_305 ?_
                                  refine j_ci (rn_V G hW (ci := 2) (n := 1) (As := [.int (I37 a2 3)]) (rest := [.int r36, .int x1, .int (I37 a2 1), .ref (a0 + 35)]) (c_X1_ownOrCopy K hW l a0 (I37 a2 3) k0 I37 J B _ h) k0 (by decide) rfl ml_X1_250 im_X1_ownOrCopy se_X1_ownOrCopy in_X1 co_X1_ownOrCopy rfl (by decide +kernel) rfl rfl (by decide) (by decide) rfl rfl (Nat.le_of_ble_eq_true rfl) dX1_workerDoes_308) (fun r39 I40 h => ?_)
                                  refine j_ci (rn_N G (n := 3) (As := [.int x1, .int r36, .int r39]) (rest := [.int (I37 a2 1), .ref (a0 + 35)]) (c_X9_reckon K hW l x1 r36 r39 I40 J B _ h) (List.mem_of_getElem? (i := 7) rfl) st_X9_reckon in_X9 co_X9_reckon (by decide +kernel) rfl rfl (by decide) (by decide) rfl rfl (Nat.le_of_ble_eq_true rfl) dX1_workerDoes_311) (fun r41 _ h => ?_)
                                  obtain ⟨b42, h⟩ := h
                                  refine j_iast G hW kk38 b42 dX1_workerDoes_314 ?_
                                  refine j_mI (fun I43 eI43 => ?_)
                                  have h := h I43 eI43
                                  refine j_aload_n G 1 3 dX1_workerDoes_315 rfl rfl ?_
                                  refine j_get G hW 6 1 0 (.int (I43 (a0 + 60) 1)) kk2 (by decide) rfl (by decide) rfl lay_X5 fl_X1_170 rfl rfl dX1_workerDoes_316 ?_
                                  refine j_iconst G (1 : Int32) dX1_workerDoes_319 (by decide) ?_
                                  refine j_iadd G dX1_workerDoes_320 ?_
                                  exact j_reti G I43 rfl dX1_workerDoes_321 h rfl
                                · skip
                                  by_cases c60 : x1 = (13 : Int32)
                                  · refine j_tableIn G 282 dX1_workerDoes_8 (by rw [c60]; decide) (by rw [c60]; decide) (by rw [c60] <;> rfl) (by decide) ?_
                                    refine j_aload_n G 1 0 dX1_workerDoes_282 rfl rfl ?_
                                    refine j_aload_n G 3 2 dX1_workerDoes_283 rfl rfl ?_
                                    refine j_get G hW 1 2 0 (.int (I a2 2)) k2 (by decide) rfl (by decide) rfl lay_X0 fl_X1_217 rfl rfl dX1_workerDoes_284 ?_
                                    refine j_ci (rn_V G hW (ci := 2) (n := 1) (As := [.int (I a2 2)]) (rest := []) (c_X1_ownOrCopy K hW l a0 (I a2 2) k0 I J B _ h) k0 (by decide) rfl ml_X1_250 im_X1_ownOrCopy se_X1_ownOrCopy in_X1 co_X1_ownOrCopy rfl (by decide +kernel) rfl rfl (by decide) (by decide) rfl rfl (Nat.le_of_ble_eq_true rfl) dX1_workerDoes_287) (fun r36 I37 h => ?_)
                                    refine j_istore G [(6, .int r36), (3, .ref (a0 + 60)), (0, .ref a0), (1, .int x1), (2, .ref a2)] dX1_workerDoes_290 (by decide) rfl ?_
                                    refine j_aload_n G 2 0 dX1_workerDoes_292 rfl rfl ?_
                                    have kk38 : kG K (a0 + 35) = (20, 8) := wk_3_35 hW k0
                                    refine j_get G hW 2 1 38 (.ref (a0 + 35)) k0 (by decide) rfl (by decide) rfl lay_X1 fl_X1_18 rfl rfl dX1_workerDoes_293 ?_
                                    refine j_aload_n G 4 2 dX1_workerDoes_296 rfl rfl ?_
                                    refine j_get G hW 1 1 0 (.int (I37 a2 1)) k2 (by decide) rfl (by decide) rfl lay_X0 fl_X1_214 rfl rfl dX1_workerDoes_297 ?_
                                    refine j_iload_n G 3 1 dX1_workerDoes_300 rfl rfl ?_
                                    refine j_iload G 0 dX1_workerDoes_301 rfl ?_
                                    refine j_aload_n G 2 0 dX1_workerDoes_303 rfl rfl ?_
                                    refine j_aload_n G 4 2 dX1_workerDoes_304 rfl rfl ?_
                                    refine j_get G hW 1 3 0 (.int (I37 a2 3)) k2 (by decide) rfl (by decide) rfl lay_X0 fl_X1_220 rfl rfl dX1_workerDoes_305 ?_
                                    refine j_ci (rn_V G hW (ci := 2) (n := 1) (As := [.int (I37 a2 3)]) (rest := [.int r36, .int x1, .int (I37 a2 1), .ref (a0 + 35)]) (c_X1_ownOrCopy K hW l a0 (I37 a2 3) k0 I37 J B _ h) k0 (by decide) rfl ml_X1_250 im_X1_ownOrCopy se_X1_ownOrCopy in_X1 co_X1_ownOrCopy rfl (by decide +kernel) rfl rfl (by decide) (by decide) rfl rfl (Nat.le_of_ble_eq_true rfl) dX1_workerDoes_308) (fun r39 I40 h => ?_)
                                    refine j_ci (rn_N G (n := 3) (As := [.int x1, .int r36, .int r39]) (rest := [.int (I37 a2 1), .ref (a0 + 35)]) (c_X9_reckon K hW l x1 r36 r39 I40 J B _ h) (List.mem_of_getElem? (i := 7) rfl) st_X9_reckon in_X9 co_X9_reckon (by decide +kernel) rfl rfl (by decide) (by decide) rfl rfl (Nat.le_of_ble_eq_true rfl) dX1_workerDoes_311) (fun r41 _ h => ?_)
                                    obtain ⟨b42, h⟩ := h
                                    refine j_iast G hW kk38 b42 dX1_workerDoes_314 ?_
                                    refine j_mI (fun I43 eI43 => ?_)
                                    have h := h I43 eI43
                                    refine j_aload_n G 1 3 dX1_workerDoes_315 rfl rfl ?_
                                    refine j_get G hW 6 1 0 (.int (I43 (a0 + 60) 1)) kk2 (by decide) rfl (by decide) rfl lay_X5 fl_X1_170 rfl rfl dX1_workerDoes_316 ?_
                                    refine j_iconst G (1 : Int32) dX1_workerDoes_319 (by decide) ?_
                                    refine j_iadd G dX1_workerDoes_320 ?_
                                    exact j_reti G I43 rfl dX1_workerDoes_321 h rfl
                                  · skip
                                    by_cases c61 : x1 = (14 : Int32)
                                    · refine j_tableIn G 282 dX1_workerDoes_8 (by rw [c61]; decide) (by rw [c61]; decide) (by rw [c61] <;> rfl) (by decide) ?_
                                      refine j_aload_n G 1 0 dX1_workerDoes_282 rfl rfl ?_
                                      refine j_aload_n G 3 2 dX1_workerDoes_283 rfl rfl ?_
                                      refine j_get G hW 1 2 0 (.int (I a2 2)) k2 (by decide) rfl (by decide) rfl lay_X0 fl_X1_217 rfl rfl dX1_workerDoes_284 ?_
                                      refine j_ci (rn_V G hW (ci := 2) (n := 1) (As := [.int (I a2 2)]) (rest := []) (c_X1_ownOrCopy K hW l a0 (I a2 2) k0 I J B _ h) k0 (by decide) rfl ml_X1_250 im_X1_ownOrCopy se_X1_ownOrCopy in_X1 co_X1_ownOrCopy rfl (by decide +kernel) rfl rfl (by decide) (by decide) rfl rfl (Nat.le_of_ble_eq_true rfl) dX1_workerDoes_287) (fun r36 I37 h => ?_)
                                      refine j_istore G [(6, .int r36), (3, .ref (a0 + 60)), (0, .ref a0), (1, .int x1), (2, .ref a2)] dX1_workerDoes_290 (by decide) rfl ?_
                                      refine j_aload_n G 2 0 dX1_workerDoes_292 rfl rfl ?_
                                      have kk38 : kG K (a0 + 35) = (20, 8) := wk_3_35 hW k0
                                      refine j_get G hW 2 1 38 (.ref (a0 + 35)) k0 (by decide) rfl (by decide) rfl lay_X1 fl_X1_18 rfl rfl dX1_workerDoes_293 ?_
                                      refine j_aload_n G 4 2 dX1_workerDoes_296 rfl rfl ?_
                                      refine j_get G hW 1 1 0 (.int (I37 a2 1)) k2 (by decide) rfl (by decide) rfl lay_X0 fl_X1_214 rfl rfl dX1_workerDoes_297 ?_
                                      refine j_iload_n G 3 1 dX1_workerDoes_300 rfl rfl ?_
                                      refine j_iload G 0 dX1_workerDoes_301 rfl ?_
                                      refine j_aload_n G 2 0 dX1_workerDoes_303 rfl rfl ?_
                                      refine j_aload_n G 4 2 dX1_workerDoes_304 rfl rfl ?_
                                      refine j_get G hW 1 3 0 (.int (I37 a2 3)) k2 (by decide) rfl (by decide) rfl lay_X0 fl_X1_220 rfl rfl dX1_workerDoes_305 ?_
                                      refine j_ci (rn_V G hW (ci := 2) (n := 1) (As := [.int (I37 a2 3)]) (rest := [.int r36, .int x1, .int (I37 a2 1), .ref (a0 + 35)]) (c_X1_ownOrCopy K hW l a0 (I37 a2 3) k0 I37 J B _ h) k0 (by decide) rfl ml_X1_250 im_X1_ownOrCopy se_X1_ownOrCopy in_X1 co_X1_ownOrCopy rfl (by decide +kernel) rfl rfl (by decide) (by decide) rfl rfl (Nat.le_of_ble_eq_true rfl) dX1_workerDoes_308) (fun r39 I40 h => ?_)
                                      refine j_ci (rn_N G (n := 3) (As := [.int x1, .int r36, .int r39]) (rest := [.int (I37 a2 1), .ref (a0 + 35)]) (c_X9_reckon K hW l x1 r36 r39 I40 J B _ h) (List.mem_of_getElem? (i := 7) rfl) st_X9_reckon in_X9 co_X9_reckon (by decide +kernel) rfl rfl (by decide) (by decide) rfl rfl (Nat.le_of_ble_eq_true rfl) dX1_workerDoes_311) (fun r41 _ h => ?_)
                                      obtain ⟨b42, h⟩ := h
                                      refine j_iast G hW kk38 b42 dX1_workerDoes_314 ?_
                                      refine j_mI (fun I43 eI43 => ?_)
                                      have h := h I43 eI43
                                      refine j_aload_n G 1 3 dX1_workerDoes_315 rfl rfl ?_
                                      refine j_get G hW 6 1 0 (.int (I43 (a0 + 60) 1)) kk2 (by decide) rfl (by decide) rfl lay_X5 fl_X1_170 rfl rfl dX1_workerDoes_316 ?_
                                      refine j_iconst G (1 : Int32) dX1_workerDoes_319 (by decide) ?_
                                      refine j_iadd G dX1_workerDoes_320 ?_
                                      exact j_reti G I43 rfl dX1_workerDoes_321 h rfl
                                    · skip
                                      by_cases c62 : x1 = (16 : Int32)
                                      · refine j_tableIn G 282 dX1_workerDoes_8 (by rw [c62]; decide) (by rw [c62]; decide) (by rw [c62] <;> rfl) (by decide) ?_
                                        refine j_aload_n G 1 0 dX1_workerDoes_282 rfl rfl ?_
                                        refine j_aload_n G 3 2 dX1_workerDoes_283 rfl rfl ?_
                                        refine j_get G hW 1 2 0 (.int (I a2 2)) k2 (by decide) rfl (by decide) rfl lay_X0 fl_X1_217 rfl rfl dX1_workerDoes_284 ?_
                                        refine j_ci (rn_V G hW (ci := 2) (n := 1) (As := [.int (I a2 2)]) (rest := []) (c_X1_ownOrCopy K hW l a0 (I a2 2) k0 I J B _ h) k0 (by decide) rfl ml_X1_250 im_X1_ownOrCopy se_X1_ownOrCopy in_X1 co_X1_ownOrCopy rfl (by decide +kernel) rfl rfl (by decide) (by decide) rfl rfl (Nat.le_of_ble_eq_true rfl) dX1_workerDoes_287) (fun r36 I37 h => ?_)
                                        refine j_istore G [(6, .int r36), (3, .ref (a0 + 60)), (0, .ref a0), (1, .int x1), (2, .ref a2)] dX1_workerDoes_290 (by decide) rfl ?_
                                        refine j_aload_n G 2 0 dX1_workerDoes_292 rfl rfl ?_
                                        have kk38 : kG K (a0 + 35) = (20, 8) := wk_3_35 hW k0
                                        refine j_get G hW 2 1 38 (.ref (a0 + 35)) k0 (by decide) rfl (by decide) rfl lay_X1 fl_X1_18 rfl rfl dX1_workerDoes_293 ?_
                                        refine j_aload_n G 4 2 dX1_workerDoes_296 rfl rfl ?_
                                        refine j_get G hW 1 1 0 (.int (I37 a2 1)) k2 (by decide) rfl (by decide) rfl lay_X0 fl_X1_214 rfl rfl dX1_workerDoes_297 ?_
                                        refine j_iload_n G 3 1 dX1_workerDoes_300 rfl rfl ?_
                                        refine j_iload G 0 dX1_workerDoes_301 rfl ?_
                                        refine j_aload_n G 2 0 dX1_workerDoes_303 rfl rfl ?_
                                        refine j_aload_n G 4 2 dX1_workerDoes_304 rfl rfl ?_
                                        refine j_get G hW 1 3 0 (.int (I37 a2 3)) k2 (by decide) rfl (by decide) rfl lay_X0 fl_X1_220 rfl rfl dX1_workerDoes_305 ?_
                                        refine j_ci (rn_V G hW (ci := 2) (n := 1) (As := [.int (I37 a2 3)]) (rest := [.int r36, .int x1, .int (I37 a2 1), .ref (a0 + 35)]) (c_X1_ownOrCopy K hW l a0 (I37 a2 3) k0 I37 J B _ h) k0 (by decide) rfl ml_X1_250 im_X1_ownOrCopy se_X1_ownOrCopy in_X1 co_X1_ownOrCopy rfl (by decide +kernel) rfl rfl (by decide) (by decide) rfl rfl (Nat.le_of_ble_eq_true rfl) dX1_workerDoes_308) (fun r39 I40 h => ?_)
                                        refine j_ci (rn_N G (n := 3) (As := [.int x1, .int r36, .int r39]) (rest := [.int (I37 a2 1), .ref (a0 + 35)]) (c_X9_reckon K hW l x1 r36 r39 I40 J B _ h) (List.mem_of_getElem? (i := 7) rfl) st_X9_reckon in_X9 co_X9_reckon (by decide +kernel) rfl rfl (by decide) (by decide) rfl rfl (Nat.le_of_ble_eq_true rfl) dX1_workerDoes_311) (fun r41 _ h => ?_)
                                        obtain ⟨b42, h⟩ := h
                                        refine j_iast G hW kk38 b42 dX1_workerDoes_314 ?_
                                        refine j_mI (fun I43 eI43 => ?_)
                                        have h := h I43 eI43
                                        refine j_aload_n G 1 3 dX1_workerDoes_315 rfl rfl ?_
                                        refine j_get G hW 6 1 0 (.int (I43 (a0 + 60) 1)) kk2 (by decide) rfl (by decide) rfl lay_X5 fl_X1_170 rfl rfl dX1_workerDoes_316 ?_
                                        refine j_iconst G (1 : Int32) dX1_workerDoes_319 (by decide) ?_
                                        refine j_iadd G dX1_workerDoes_320 ?_
                                        exact j_reti G I43 rfl dX1_workerDoes_321 h rfl
                                      · skip
                                        by_cases c63 : x1 = (18 : Int32)
                                        · refine j_tableIn G 282 dX1_workerDoes_8 (by rw [c63]; decide) (by rw [c63]; decide) (by rw [c63] <;> rfl) (by decide) ?_
                                          refine j_aload_n G 1 0 dX1_workerDoes_282 rfl rfl ?_
                                          refine j_aload_n G 3 2 dX1_workerDoes_283 rfl rfl ?_
                                          refine j_get G hW 1 2 0 (.int (I a2 2)) k2 (by decide) rfl (by decide) rfl lay_X0 fl_X1_217 rfl rfl dX1_workerDoes_284 ?_
                                          refine j_ci (rn_V G hW (ci := 2) (n := 1) (As := [.int (I a2 2)]) (rest := []) (c_X1_ownOrCopy K hW l a0 (I a2 2) k0 I J B _ h) k0 (by decide) rfl ml_X1_250 im_X1_ownOrCopy se_X1_ownOrCopy in_X1 co_X1_ownOrCopy rfl (by decide +kernel) rfl rfl (by decide) (by decide) rfl rfl (Nat.le_of_ble_eq_true rfl) dX1_workerDoes_287) (fun r36 I37 h => ?_)
                                          refine j_istore G [(6, .int r36), (3, .ref (a0 + 60)), (0, .ref a0), (1, .int x1), (2, .ref a2)] dX1_workerDoes_290 (by decide) rfl ?_
                                          refine j_aload_n G 2 0 dX1_workerDoes_292 rfl rfl ?_
                                          have kk38 : kG K (a0 + 35) = (20, 8) := wk_3_35 hW k0
                                          refine j_get G hW 2 1 38 (.ref (a0 + 35)) k0 (by decide) rfl (by decide) rfl lay_X1 fl_X1_18 rfl rfl dX1_workerDoes_293 ?_
                                          refine j_aload_n G 4 2 dX1_workerDoes_296 rfl rfl ?_
                                          refine j_get G hW 1 1 0 (.int (I37 a2 1)) k2 (by decide) rfl (by decide) rfl lay_X0 fl_X1_214 rfl rfl dX1_workerDoes_297 ?_
                                          refine j_iload_n G 3 1 dX1_workerDoes_300 rfl rfl ?_
                                          refine j_iload G 0 dX1_workerDoes_301 rfl ?_
                                          refine j_aload_n G 2 0 dX1_workerDoes_303 rfl rfl ?_
                                          refine j_aload_n G 4 2 dX1_workerDoes_304 rfl rfl ?_
                                          refine j_get G hW 1 3 0 (.int (I37 a2 3)) k2 (by decide) rfl (by decide) rfl lay_X0 fl_X1_220 rfl rfl dX1_workerDoes_305 ?_
                                          refine j_ci (rn_V G hW (ci := 2) (n := 1) (As := [.int (I37 a2 3)]) (rest := [.int r36, .int x1, .int (I37 a2 1), .ref (a0 + 35)]) (c_X1_ownOrCopy K hW l a0 (I37 a2 3) k0 I37 J B _ h) k0 (by decide) rfl ml_X1_250 im_X1_ownOrCopy se_X1_ownOrCopy in_X1 co_X1_ownOrCopy rfl (by decide +kernel) rfl rfl (by decide) (by decide) rfl rfl (Nat.le_of_ble_eq_true rfl) dX1_workerDoes_308) (fun r39 I40 h => ?_)
                                          refine j_ci (rn_N G (n := 3) (As := [.int x1, .int r36, .int r39]) (rest := [.int (I37 a2 1), .ref (a0 + 35)]) (c_X9_reckon K hW l x1 r36 r39 I40 J B _ h) (List.mem_of_getElem? (i := 7) rfl) st_X9_reckon in_X9 co_X9_reckon (by decide +kernel) rfl rfl (by decide) (by decide) rfl rfl (Nat.le_of_ble_eq_true rfl) dX1_workerDoes_311) (fun r41 _ h => ?_)
                                          obtain ⟨b42, h⟩ := h
                                          refine j_iast G hW kk38 b42 dX1_workerDoes_314 ?_
                                          refine j_mI (fun I43 eI43 => ?_)
                                          have h := h I43 eI43
                                          refine j_aload_n G 1 3 dX1_workerDoes_315 rfl rfl ?_
                                          refine j_get G hW 6 1 0 (.int (I43 (a0 + 60) 1)) kk2 (by decide) rfl (by decide) rfl lay_X5 fl_X1_170 rfl rfl dX1_workerDoes_316 ?_
                                          refine j_iconst G (1 : Int32) dX1_workerDoes_319 (by decide) ?_
                                          refine j_iadd G dX1_workerDoes_320 ?_
                                          exact j_reti G I43 rfl dX1_workerDoes_321 h rfl
                                        · skip
                                          have nc44 := sw_ne (n := 0) rfl c44
                                          have nc51 := sw_ne (n := 1) rfl c51
                                          have nc52 := sw_ne (n := 2) rfl c52
                                          have nc53 := sw_ne (n := 3) rfl c53
                                          have nc54 := sw_ne (n := 4) rfl c54
                                          have nc55 := sw_ne (n := 5) rfl c55
                                          have nc45 := sw_ne (n := 6) rfl c45
                                          have nc56 := sw_ne (n := 7) rfl c56
                                          have nc46 := sw_ne (n := 8) rfl c46
                                          have nc57 := sw_ne (n := 9) rfl c57
                                          have nc58 := sw_ne (n := 10) rfl c58
                                          have nc59 := sw_ne (n := 11) rfl c59
                                          have nc47 := sw_ne (n := 12) rfl c47
                                          have nc60 := sw_ne (n := 13) rfl c60
                                          have nc61 := sw_ne (n := 14) rfl c61
                                          have nc48 := sw_ne (n := 15) rfl c48
                                          have nc62 := sw_ne (n := 16) rfl c62
                                          have nc49 := sw_ne (n := 17) rfl c49
                                          have nc63 := sw_ne (n := 18) rfl c63
                                          have nc50 := sw_ne (n := 19) rfl c50
                                          refine j_tableOut G 282 dX1_workerDoes_8 (by omega) (by decide) ?_
                                          refine j_aload_n G 1 0 dX1_workerDoes_282 rfl rfl ?_
                                          refine j_aload_n G 3 2 dX1_workerDoes_283 rfl rfl ?_
                                          refine j_get G hW 1 2 0 (.int (I a2 2)) k2 (by decide) rfl (by decide) rfl lay_X0 fl_X1_217 rfl rfl dX1_workerDoes_284 ?_
                                          refine j_ci (rn_V G hW (ci := 2) (n := 1) (As := [.int (I a2 2)]) (rest := []) (c_X1_ownOrCopy K hW l a0 (I a2 2) k0 I J B _ h) k0 (by decide) rfl ml_X1_250 im_X1_ownOrCopy se_X1_ownOrCopy in_X1 co_X1_ownOrCopy rfl (by decide +kernel) rfl rfl (by decide) (by decide) rfl rfl (Nat.le_of_ble_eq_true rfl) dX1_workerDoes_287) (fun r36 I37 h => ?_)
                                          refine j_istore G [(6, .int r36), (3, .ref (a0 + 60)), (0, .ref a0), (1, .int x1), (2, .ref a2)] dX1_workerDoes_290 (by decide) rfl ?_
                                          refine j_aload_n G 2 0 dX1_workerDoes_292 rfl rfl ?_
                                          have kk38 : kG K (a0 + 35) = (20, 8) := wk_3_35 hW k0
                                          refine j_get G hW 2 1 38 (.ref (a0 + 35)) k0 (by decide) rfl (by decide) rfl lay_X1 fl_X1_18 rfl rfl dX1_workerDoes_293 ?_
                                          refine j_aload_n G 4 2 dX1_workerDoes_296 rfl rfl ?_
                                          refine j_get G hW 1 1 0 (.int (I37 a2 1)) k2 (by decide) rfl (by decide) rfl lay_X0 fl_X1_214 rfl rfl dX1_workerDoes_297 ?_
                                          refine j_iload_n G 3 1 dX1_workerDoes_300 rfl rfl ?_
                                          refine j_iload G 0 dX1_workerDoes_301 rfl ?_
                                          refine j_aload_n G 2 0 dX1_workerDoes_303 rfl rfl ?_
                                          refine j_aload_n G 4 2 dX1_workerDoes_304 rfl rfl ?_
                                          refine j_get G hW 1 3 0 (.int (I37 a2 3)) k2 (by decide) rfl (by decide) rfl lay_X0 fl_X1_220 rfl rfl dX1_workerDoes_305 ?_
                                          refine j_ci (rn_V G hW (ci := 2) (n := 1) (As := [.int (I37 a2 3)]) (rest := [.int r36, .int x1, .int (I37 a2 1), .ref (a0 + 35)]) (c_X1_ownOrCopy K hW l a0 (I37 a2 3) k0 I37 J B _ h) k0 (by decide) rfl ml_X1_250 im_X1_ownOrCopy se_X1_ownOrCopy in_X1 co_X1_ownOrCopy rfl (by decide +kernel) rfl rfl (by decide) (by decide) rfl rfl (Nat.le_of_ble_eq_true rfl) dX1_workerDoes_308) (fun r39 I40 h => ?_)
                                          refine j_ci (rn_N G (n := 3) (As := [.int x1, .int r36, .int r39]) (rest := [.int (I37 a2 1), .ref (a0 + 35)]) (c_X9_reckon K hW l x1 r36 r39 I40 J B _ h) (List.mem_of_getElem? (i := 7) rfl) st_X9_reckon in_X9 co_X9_reckon (by decide +kernel) rfl rfl (by decide) (by decide) rfl rfl (Nat.le_of_ble_eq_true rfl) dX1_workerDoes_311) (fun r41 _ h => ?_)
                                          obtain ⟨b42, h⟩ := h
                                          refine j_iast G hW kk38 b42 dX1_workerDoes_314 ?_
                                          refine j_mI (fun I43 eI43 => ?_)
                                          have h := h I43 eI43
                                          refine j_aload_n G 1 3 dX1_workerDoes_315 rfl rfl ?_
                                          refine j_get G hW 6 1 0 (.int (I43 (a0 + 60) 1)) kk2 (by decide) rfl (by decide) rfl lay_X5 fl_X1_170 rfl rfl dX1_workerDoes_316 ?_
                                          refine j_iconst G (1 : Int32) dX1_workerDoes_319 (by decide) ?_
                                          refine j_iadd G dX1_workerDoes_320 ?_
                                          exact j_reti G I43 rfl dX1_workerDoes_321 h rfl
abbrev rm_X1_workerTries : Room := { frames := 3, cells := 0, slots := 0, locals := 68 }
def w_X1_workerTries (a0 : Nat) (I : MI) (Q : MI → Prop) : Prop :=
(w_X5_setReason (a0 + 60) (0 : Int32) I (fun I3 =>
(((I3 (a0 + 60) 4) = 0 → (w_X5_passWithoutDeeds (a0 + 60) (a0 + 1) I3 (fun I6 =>
(vp_in (I6 (a0 + 60) 1) 25 ∧
(w_X5_kindOfNext (a0 + 60) (a0 + 1) I6 (fun r10 =>
(w_X1_workerWaitsFor a0 r10 (a0 + 10 + ix (I6 (a0 + 60) 1)) I6 (fun r11 =>
(w_X5_setReason (a0 + 60) r11 I6 (fun I12 =>
((¬ r11 = 0 → Q I12) ∧
(r11 = 0 → (w_X1_workerDoes a0 r10 (a0 + 10 + ix (I6 (a0 + 60) 1)) I12 (fun r14 I15 =>
(w_X5_finishDeed (a0 + 60) (a0 + 1) r14 I15 (fun I16 =>
(∀ I17, I17 = ui I16 a0 15 (1 : Int32) →
Q I17))))))))))))))))) ∧
(¬ (I3 (a0 + 60) 4) = 0 → Q I3))))
set_option maxHeartbeats 4000000 in
set_option maxRecDepth 100000 in
theorem c_X1_workerTries (K : Kx) (hW : WFK K) (l : Launch) (a0 : Nat) (k0 : (kG K a0).1 = 3) (I : MI) (J : MJ) (B : MR) (Q : MI → Prop) (h : w_X1_workerTries a0 I Q) : Con K l yX1_workerTries (wsT yX1_workerTries cX1_workerTries 5 none) rm_X1_workerTries [.ref a0] (I, J, B) (va_Qv (S := MI) Q (fun u t => HP K (u, J, B) t.heap) (AA K)) := by
  refine Con.ofJ RX1 rfl (by decide) (Nat.le_of_ble_eq_true rfl) (fun m H0 w G => ?_)
  unfold w_X1_workerTries at h
  show Jg K m 5 H0 w 0 [(0, .ref a0)] [] (I, J, B)
  refine j_aload_n G 0 0 dX1_workerTries_0 rfl rfl ?_
  have kk1 : kG K (a0 + 38) = (26, 2) := wk_3_38 hW k0
  refine j_get G hW 2 4 41 (.ref (a0 + 38)) k0 (by decide) rfl (by decide) rfl lay_X1 fl_X1_33 rfl rfl dX1_workerTries_1 ?_
  refine j_iconst G (1 : Int32) dX1_workerTries_4 (by decide) ?_
  have kk2 : (kG K (a0 + 60)).1 = 7 := wk_a26 (i := (1 : Int32)) hW kk1 (vpc rfl) (ad1 (j := 1) (by decide) rfl)
  refine j_aald26 G hW (i := (1 : Int32)) (b := a0 + 60) kk1 (vpc rfl) (ad1 (j := 1) (by decide) rfl) dX1_workerTries_5 ?_
  refine j_astore_n G 1 [(1, .ref (a0 + 60)), (0, .ref a0)] dX1_workerTries_6 rfl (by decide) rfl ?_
  refine j_aload_n G 0 1 dX1_workerTries_7 rfl rfl ?_
  refine j_iconst G (0 : Int32) dX1_workerTries_8 (by decide) ?_
  refine j_cv (rn_V G hW (ci := 6) (n := 1) (As := [.int (0 : Int32)]) (rest := []) (c_X5_setReason K hW l (a0 + 60) (0 : Int32) kk2 I J B _ h) kk2 (by decide) rfl ml_X1_160 im_X5_setReason se_X5_setReason in_X5 co_X5_setReason rfl (by decide +kernel) rfl rfl (by decide) (by decide) rfl rfl (Nat.le_of_ble_eq_true rfl) dX1_workerTries_9) (fun I3 h => ?_)
  refine j_aload_n G 0 1 dX1_workerTries_12 rfl rfl ?_
  refine j_get G hW 6 4 0 (.int (I3 (a0 + 60) 4)) kk2 (by decide) rfl (by decide) rfl lay_X5 fl_X1_139 rfl rfl dX1_workerTries_13 ?_
  refine j_if_eq G 20 dX1_workerTries_16 (by decide) (fun c4 => ?_) (fun c4 => ?_)
  · have h := h.1 c4
    refine j_aload_n G 0 1 dX1_workerTries_20 rfl rfl ?_
    refine j_aload_n G 1 0 dX1_workerTries_21 rfl rfl ?_
    have kk5 : kG K (a0 + 1) = (4, 0) := wk_3_1 hW k0
    refine j_get G hW 2 0 4 (.ref (a0 + 1)) k0 (by decide) rfl (by decide) rfl lay_X1 fl_X1_12 rfl rfl dX1_workerTries_22 ?_
    refine j_cv (rn_V G hW (ci := 6) (n := 1) (As := [.ref (a0 + 1)]) (rest := []) (c_X5_passWithoutDeeds K hW l (a0 + 60) (a0 + 1) kk2 (congrArg Prod.fst kk5) I3 J B _ h) kk2 (by decide) rfl ml_X1_163 im_X5_passWithoutDeeds se_X5_passWithoutDeeds in_X5 co_X5_passWithoutDeeds rfl (by decide +kernel) rfl rfl (by decide) (by decide) rfl rfl (Nat.le_of_ble_eq_true rfl) dX1_workerTries_25) (fun I6 h => ?_)
    refine j_aload_n G 1 0 dX1_workerTries_28 rfl rfl ?_
    refine j_get G hW 2 0 4 (.ref (a0 + 1)) k0 (by decide) rfl (by decide) rfl lay_X1 fl_X1_12 rfl rfl dX1_workerTries_29 ?_
    have kk7 : kG K (a0 + 2) = (24, 25) := wk_4_1 hW (congrArg Prod.fst kk5)
    refine j_get G hW 3 0 4 (.ref (a0 + 2)) (congrArg Prod.fst kk5) (by decide) rfl (by decide) rfl lay_X2 fl_X1_166 rfl rfl dX1_workerTries_32 ?_
    refine j_aload_n G 0 1 dX1_workerTries_35 rfl rfl ?_
    refine j_get G hW 6 1 0 (.int (I6 (a0 + 60) 1)) kk2 (by decide) rfl (by decide) rfl lay_X5 fl_X1_170 rfl rfl dX1_workerTries_36 ?_
    obtain ⟨b8, h⟩ := h
    have kk9 : (kG K (a0 + 10 + ix (I6 (a0 + 60) 1))).1 = 2 := wk_a24 (i := I6 (a0 + 60) 1) hW kk7 b8 (ad3 rfl)
    refine j_aald24 G hW (i := I6 (a0 + 60) 1) (b := a0 + 10 + ix (I6 (a0 + 60) 1)) kk7 b8 (ad3 rfl) dX1_workerTries_39 ?_
    refine j_astore_n G 2 [(2, .ref (a0 + 10 + ix (I6 (a0 + 60) 1))), (1, .ref (a0 + 60)), (0, .ref a0)] dX1_workerTries_40 rfl (by decide) rfl ?_
    refine j_aload_n G 1 1 dX1_workerTries_41 rfl rfl ?_
    refine j_aload_n G 2 0 dX1_workerTries_42 rfl rfl ?_
    refine j_get G hW 2 0 4 (.ref (a0 + 1)) k0 (by decide) rfl (by decide) rfl lay_X1 fl_X1_12 rfl rfl dX1_workerTries_43 ?_
    refine j_ci (rn_V G hW (ci := 6) (n := 1) (As := [.ref (a0 + 1)]) (rest := []) (c_X5_kindOfNext K hW l (a0 + 60) (a0 + 1) kk2 (congrArg Prod.fst kk5) I6 J B _ h) kk2 (by decide) rfl ml_X1_173 im_X5_kindOfNext se_X5_kindOfNext in_X5 co_X5_kindOfNext rfl (by decide +kernel) rfl rfl (by decide) (by decide) rfl rfl (Nat.le_of_ble_eq_true rfl) dX1_workerTries_46) (fun r10 _ h => ?_)
    refine j_istore_n G 3 [(3, .int r10), (2, .ref (a0 + 10 + ix (I6 (a0 + 60) 1))), (1, .ref (a0 + 60)), (0, .ref a0)] dX1_workerTries_49 rfl (by decide) rfl ?_
    refine j_aload_n G 3 0 dX1_workerTries_50 rfl rfl ?_
    refine j_iload_n G 0 3 dX1_workerTries_51 rfl rfl ?_
    refine j_aload_n G 1 2 dX1_workerTries_52 rfl rfl ?_
    refine j_ci (rn_V G hW (ci := 2) (n := 2) (As := [.int r10, .ref (a0 + 10 + ix (I6 (a0 + 60) 1))]) (rest := []) (c_X1_workerWaitsFor K hW l a0 r10 (a0 + 10 + ix (I6 (a0 + 60) 1)) k0 kk9 I6 J B _ h) k0 (by decide) rfl ml_X1_234 im_X1_workerWaitsFor se_X1_workerWaitsFor in_X1 co_X1_workerWaitsFor rfl (by decide +kernel) rfl rfl (by decide) (by decide) rfl rfl (Nat.le_of_ble_eq_true rfl) dX1_workerTries_53) (fun r11 _ h => ?_)
    refine j_istore G [(4, .int r11), (3, .int r10), (2, .ref (a0 + 10 + ix (I6 (a0 + 60) 1))), (1, .ref (a0 + 60)), (0, .ref a0)] dX1_workerTries_56 (by decide) rfl ?_
    refine j_aload_n G 3 1 dX1_workerTries_58 rfl rfl ?_
    refine j_iload G 0 dX1_workerTries_59 rfl ?_
    refine j_cv (rn_V G hW (ci := 6) (n := 1) (As := [.int r11]) (rest := []) (c_X5_setReason K hW l (a0 + 60) r11 kk2 I6 J B _ h) kk2 (by decide) rfl ml_X1_160 im_X5_setReason se_X5_setReason in_X5 co_X5_setReason rfl (by decide +kernel) rfl rfl (by decide) (by decide) rfl rfl (Nat.le_of_ble_eq_true rfl) dX1_workerTries_61) (fun I12 h => ?_)
    refine j_iload G 0 dX1_workerTries_64 rfl ?_
    refine j_if_ne G 88 dX1_workerTries_66 (by decide) (fun c13 => ?_) (fun c13 => ?_)
    · have h := h.1 c13
      exact j_retv G I12 dX1_workerTries_88 h rfl
    · have h := h.2 c13
      refine j_aload_n G 3 1 dX1_workerTries_69 rfl rfl ?_
      refine j_aload_n G 4 0 dX1_workerTries_70 rfl rfl ?_
      refine j_get G hW 2 0 4 (.ref (a0 + 1)) k0 (by decide) rfl (by decide) rfl lay_X1 fl_X1_12 rfl rfl dX1_workerTries_71 ?_
      refine j_aload_n G 4 0 dX1_workerTries_74 rfl rfl ?_
      refine j_iload_n G 1 3 dX1_workerTries_75 rfl rfl ?_
      refine j_aload_n G 2 2 dX1_workerTries_76 rfl rfl ?_
      refine j_ci (rn_V G hW (ci := 2) (n := 2) (As := [.int r10, .ref (a0 + 10 + ix (I6 (a0 + 60) 1))]) (rest := [.ref (a0 + 1), .ref (a0 + 60)]) (c_X1_workerDoes K hW l a0 r10 (a0 + 10 + ix (I6 (a0 + 60) 1)) k0 kk9 I12 J B _ h) k0 (by decide) rfl ml_X1_237 im_X1_workerDoes se_X1_workerDoes in_X1 co_X1_workerDoes rfl (by decide +kernel) rfl rfl (by decide) (by decide) rfl rfl (Nat.le_of_ble_eq_true rfl) dX1_workerTries_77) (fun r14 I15 h => ?_)
      refine j_cv (rn_V G hW (ci := 6) (n := 2) (As := [.ref (a0 + 1), .int r14]) (rest := []) (c_X5_finishDeed K hW l (a0 + 60) (a0 + 1) r14 kk2 (congrArg Prod.fst kk5) I15 J B _ h) kk2 (by decide) rfl ml_X1_184 im_X5_finishDeed se_X5_finishDeed in_X5 co_X5_finishDeed rfl (by decide +kernel) rfl rfl (by decide) (by decide) rfl rfl (Nat.le_of_ble_eq_true rfl) dX1_workerTries_80) (fun I16 h => ?_)
      refine j_aload_n G 4 0 dX1_workerTries_83 rfl rfl ?_
      refine j_iconst G (1 : Int32) dX1_workerTries_84 (by decide) ?_
      refine j_put G hW 2 15 tyX1 (tyX1 15) tyX1_ok nmX1 k0 (by decide) rfl (by decide) rfl lay_X1 fl_X1_113 rfl rfl (tyX1_ok 15 (by decide)) (by decide) (by decide) dX1_workerTries_85 ?_
      refine j_mI (fun I17 eI17 => ?_)
      have h := h I17 eI17
      exact j_retv G I17 dX1_workerTries_88 h rfl
  · have h := h.2 c4
    exact j_retv G I3 dX1_workerTries_19 h rfl
abbrev rm_X1_slip : Room := { frames := 0, cells := 0, slots := 0, locals := 0 }
def w_X1_slip (a0 : Nat) (I : MI) (Q : Int32 →  Prop) : Prop :=
Q ((I (a0 + 57) 3) - (I (a0 + 60) 3))
set_option maxHeartbeats 4000000 in
set_option maxRecDepth 100000 in
theorem c_X1_slip (K : Kx) (hW : WFK K) (l : Launch) (a0 : Nat) (k0 : (kG K a0).1 = 3) (I : MI) (J : MJ) (B : MR) (Q : Int32 →  Prop) (h : w_X1_slip a0 I Q) : Con K l yX1_slip (wsT yX1_slip cX1_slip 1 (some .int)) rm_X1_slip [.ref a0] (I, J, B) (va_Qi (S := Unit) (fun r _ => Q r) (fun u t => HP K (I, J, B) t.heap) (AA K)) := by
  refine Con.ofJ RX1 rfl (by decide) (Nat.le_of_ble_eq_true rfl) (fun m H0 w G => ?_)
  unfold w_X1_slip at h
  show Jg K m 1 H0 w 0 [(0, .ref a0)] [] (I, J, B)
  refine j_aload_n G 0 0 dX1_slip_0 rfl rfl ?_
  have kk1 : kG K (a0 + 38) = (26, 2) := wk_3_38 hW k0
  refine j_get G hW 2 4 41 (.ref (a0 + 38)) k0 (by decide) rfl (by decide) rfl lay_X1 fl_X1_33 rfl rfl dX1_slip_1 ?_
  refine j_iconst G (0 : Int32) dX1_slip_4 (by decide) ?_
  have kk2 : (kG K (a0 + 57)).1 = 7 := wk_a26 (i := (0 : Int32)) hW kk1 (vpc rfl) (ad1 (j := 0) (by decide) rfl)
  refine j_aald26 G hW (i := (0 : Int32)) (b := a0 + 57) kk1 (vpc rfl) (ad1 (j := 0) (by decide) rfl) dX1_slip_5 ?_
  refine j_get G hW 6 3 0 (.int (I (a0 + 57) 3)) kk2 (by decide) rfl (by decide) rfl lay_X5 fl_X1_136 rfl rfl dX1_slip_6 ?_
  refine j_aload_n G 0 0 dX1_slip_9 rfl rfl ?_
  refine j_get G hW 2 4 41 (.ref (a0 + 38)) k0 (by decide) rfl (by decide) rfl lay_X1 fl_X1_33 rfl rfl dX1_slip_10 ?_
  refine j_iconst G (1 : Int32) dX1_slip_13 (by decide) ?_
  have kk3 : (kG K (a0 + 60)).1 = 7 := wk_a26 (i := (1 : Int32)) hW kk1 (vpc rfl) (ad1 (j := 1) (by decide) rfl)
  refine j_aald26 G hW (i := (1 : Int32)) (b := a0 + 60) kk1 (vpc rfl) (ad1 (j := 1) (by decide) rfl) dX1_slip_14 ?_
  refine j_get G hW 6 3 0 (.int (I (a0 + 60) 3)) kk3 (by decide) rfl (by decide) rfl lay_X5 fl_X1_136 rfl rfl dX1_slip_15 ?_
  refine j_isub G dX1_slip_18 ?_
  exact j_reti G () rfl dX1_slip_19 h rfl
abbrev rm_X1_allLoadsHaveCome : Room := { frames := 2, cells := 0, slots := 0, locals := 42 }
def w_X1_allLoadsHaveCome_l2 (a0 : Nat) (I : MI)  (Q : Int32 →  Prop) (rec : Int32 → Prop) (x1 : Int32) : Prop :=
(((I (a0 + 39) 3) ≤ x1 → Q (1 : Int32)) ∧
(¬ (I (a0 + 39) 3) ≤ x1 → (w_X1_hasCome a0 x1 I (fun r4 =>
((¬ r4 = 0 → rec (x1 + 1)) ∧
(r4 = 0 → Q (0 : Int32)))))))
set_option maxHeartbeats 4000000 in
set_option maxRecDepth 100000 in
theorem m_X1_allLoadsHaveCome_l2 {K : Kx} {l : Launch} {m : MethodId} {H0 : Heap} {Q : Int32 →  Prop} {w : HW} {I : MI} {J : MJ} {B : MR} (G : Gd l rm_X1_allLoadsHaveCome K m RX1 cX1_allLoadsHaveCome 2 H0 (some .boolean) (va_Qi (S := Unit) (fun r _ => Q r) (fun u t => HP K (I, J, B) t.heap) (AA K)) w) (hW : WFK K) (a0 : Nat) (x1 : Int32) (ka0 : (kG K a0).1 = 3)    (h : Lp1 (w_X1_allLoadsHaveCome_l2 a0 I Q) x1) : Jg K m 2 H0 w 2 [(0, .ref a0), (1, .int x1)] [] (I, J, B) := by
  obtain ⟨n, h⟩ := h
  refine lpN1_ind (P := (fun (x1 : Int32) => Jg K m 2 H0 w 2 [(0, .ref a0), (1, .int x1)] [] (I, J, B))) (fun rec hrec x1 h => ?_) n x1 h
  unfold w_X1_allLoadsHaveCome_l2 at h
  refine j_iload_n G 1 1 dX1_allLoadsHaveCome_2 rfl rfl ?_
  refine j_aload_n G 0 0 dX1_allLoadsHaveCome_3 rfl rfl ?_
  have kk1 : kG K (a0 + 37) = (25, 6) := wk_3_37 hW ka0
  refine j_get G hW 2 3 40 (.ref (a0 + 37)) ka0 (by decide) rfl (by decide) rfl lay_X1 fl_X1_27 rfl rfl dX1_allLoadsHaveCome_4 ?_
  refine j_iconst G (0 : Int32) dX1_allLoadsHaveCome_7 (by decide) ?_
  have kk2 : (kG K (a0 + 39)).1 = 5 := wk_a25 (i := (0 : Int32)) hW kk1 (vpc rfl) (ad1 (j := 0) (by decide) rfl)
  refine j_aald25 G hW (i := (0 : Int32)) (b := a0 + 39) kk1 (vpc rfl) (ad1 (j := 0) (by decide) rfl) dX1_allLoadsHaveCome_8 ?_
  refine j_get G hW 4 3 0 (.int (I (a0 + 39) 3)) kk2 (by decide) rfl (by decide) rfl lay_X3 fl_X1_142 rfl rfl dX1_allLoadsHaveCome_9 ?_
  refine j_icmp_ge G 31 dX1_allLoadsHaveCome_12 (by decide) (fun c3 => ?_) (fun c3 => ?_)
  · have h := h.1 c3
    refine j_iconst G (1 : Int32) dX1_allLoadsHaveCome_31 (by decide) ?_
    exact j_reti G () (by decide) dX1_allLoadsHaveCome_32 h rfl
  · have h := h.2 c3
    refine j_aload_n G 0 0 dX1_allLoadsHaveCome_15 rfl rfl ?_
    refine j_iload_n G 1 1 dX1_allLoadsHaveCome_16 rfl rfl ?_
    refine j_ci (rn_V G hW (ci := 2) (n := 1) (As := [.int x1]) (rest := []) (c_X1_hasCome K hW l a0 x1 ka0 I J B _ h) ka0 (by decide) rfl ml_X1_149 im_X1_hasCome se_X1_hasCome in_X1 co_X1_hasCome rfl (by decide +kernel) rfl rfl (by decide) (by decide) rfl rfl (Nat.le_of_ble_eq_true rfl) dX1_allLoadsHaveCome_17) (fun r4 _ h => ?_)
    refine j_if_ne G 25 dX1_allLoadsHaveCome_20 (by decide) (fun c5 => ?_) (fun c5 => ?_)
    · have h := h.1 c5
      refine j_iinc G 1 (x1 + 1) [(1, .int (x1 + 1)), (0, .ref a0)] dX1_allLoadsHaveCome_25 rfl rfl (by decide) rfl ?_
      refine j_goto G 2 dX1_allLoadsHaveCome_28 (by decide) ?_
      exact Jg.sub [1, 0] rfl (hrec (x1 + 1) h)
    · have h := h.2 c5
      refine j_iconst G (0 : Int32) dX1_allLoadsHaveCome_23 (by decide) ?_
      exact j_reti G () (by decide) dX1_allLoadsHaveCome_24 h rfl
def w_X1_allLoadsHaveCome (a0 : Nat) (I : MI) (Q : Int32 →  Prop) : Prop :=
Lp1 (w_X1_allLoadsHaveCome_l2 a0 I Q) (0 : Int32)
set_option maxHeartbeats 4000000 in
set_option maxRecDepth 100000 in
theorem c_X1_allLoadsHaveCome (K : Kx) (hW : WFK K) (l : Launch) (a0 : Nat) (k0 : (kG K a0).1 = 3) (I : MI) (J : MJ) (B : MR) (Q : Int32 →  Prop) (h : w_X1_allLoadsHaveCome a0 I Q) : Con K l yX1_allLoadsHaveCome (wsT yX1_allLoadsHaveCome cX1_allLoadsHaveCome 2 (some .boolean)) rm_X1_allLoadsHaveCome [.ref a0] (I, J, B) (va_Qi (S := Unit) (fun r _ => Q r) (fun u t => HP K (I, J, B) t.heap) (AA K)) := by
  refine Con.ofJ RX1 rfl (by decide) (Nat.le_of_ble_eq_true rfl) (fun m H0 w G => ?_)
  unfold w_X1_allLoadsHaveCome at h
  show Jg K m 2 H0 w 0 [(0, .ref a0)] [] (I, J, B)
  refine j_iconst G (0 : Int32) dX1_allLoadsHaveCome_0 (by decide) ?_
  refine j_istore_n G 1 [(1, .int (0 : Int32)), (0, .ref a0)] dX1_allLoadsHaveCome_1 rfl (by decide) rfl ?_
  refine Jg.sub [1, 0] rfl (m_X1_allLoadsHaveCome_l2 G hW a0 (0 : Int32) k0 h)
abbrev rm_X1_outcomeNow : Room := { frames := 3, cells := 0, slots := 0, locals := 63 }
def w_X1_outcomeNow_p38 (a0 : Nat)  (I : MI)  (Q : Int32 →  Prop) : Prop :=
((¬ (I a0 15) = 0 → (((I a0 5) < (999 : Int32) → Q (0 : Int32)) ∧
(¬ (I a0 5) < (999 : Int32) → Q (3 : Int32)))) ∧
((I a0 15) = 0 → (w_X1_allLoadsHaveCome a0 I (fun r6 =>
((r6 = 0 → (((I a0 5) < (999 : Int32) → Q (0 : Int32)) ∧
(¬ (I a0 5) < (999 : Int32) → Q (3 : Int32)))) ∧
(¬ r6 = 0 → Q (2 : Int32)))))))
set_option maxHeartbeats 4000000 in
set_option maxRecDepth 100000 in
theorem m_X1_outcomeNow_p38 {K : Kx} {l : Launch} {m : MethodId} {H0 : Heap} {Q : Int32 →  Prop} {w : HW} {I : MI} {J : MJ} {B : MR} (G : Gd l rm_X1_outcomeNow K m RX1 cX1_outcomeNow 1 H0 (some .int) (va_Qi (S := Unit) (fun r _ => Q r) (fun u t => HP K (I, J, B) t.heap) (AA K)) w) (hW : WFK K) (a0 : Nat)  (ka0 : (kG K a0).1 = 3)     (h : w_X1_outcomeNow_p38 a0 I Q) : Jg K m 1 H0 w 38 [(0, .ref a0)] [] (I, J, B) := by
  unfold w_X1_outcomeNow_p38 at h
  refine j_aload_n G 0 0 dX1_outcomeNow_38 rfl rfl ?_
  refine j_get G hW 2 15 0 (.int (I a0 15)) ka0 (by decide) rfl (by decide) rfl lay_X1 fl_X1_113 rfl rfl dX1_outcomeNow_39 ?_
  refine j_if_ne G 54 dX1_outcomeNow_42 (by decide) (fun c4 => ?_) (fun c4 => ?_)
  · have h := h.1 c4
    refine j_aload_n G 0 0 dX1_outcomeNow_54 rfl rfl ?_
    refine j_get G hW 2 5 0 (.int (I a0 5)) ka0 (by decide) rfl (by decide) rfl lay_X1 fl_X1_59 rfl rfl dX1_outcomeNow_55 ?_
    refine j_sipush G (999 : Int32) dX1_outcomeNow_58 (by decide) ?_
    refine j_icmp_lt G 68 dX1_outcomeNow_61 (by decide) (fun c5 => ?_) (fun c5 => ?_)
    · have h := h.1 c5
      refine j_iconst G (0 : Int32) dX1_outcomeNow_68 (by decide) ?_
      exact j_reti G () rfl dX1_outcomeNow_69 h rfl
    · have h := h.2 c5
      refine j_iconst G (3 : Int32) dX1_outcomeNow_64 (by decide) ?_
      refine j_goto G 69 dX1_outcomeNow_65 (by decide) ?_
      exact j_reti G () rfl dX1_outcomeNow_69 h rfl
  · have h := h.2 c4
    refine j_aload_n G 0 0 dX1_outcomeNow_45 rfl rfl ?_
    refine j_ci (rn_V G hW (ci := 2) (n := 0) (As := []) (rest := []) (c_X1_allLoadsHaveCome K hW l a0 ka0 I J B _ h) ka0 (by decide) rfl ml_X1_145 im_X1_allLoadsHaveCome se_X1_allLoadsHaveCome in_X1 co_X1_allLoadsHaveCome rfl (by decide +kernel) rfl rfl (by decide) (by decide) rfl rfl (Nat.le_of_ble_eq_true rfl) dX1_outcomeNow_46) (fun r6 _ h => ?_)
    refine j_if_eq G 54 dX1_outcomeNow_49 (by decide) (fun c7 => ?_) (fun c7 => ?_)
    · have h := h.1 c7
      refine j_aload_n G 0 0 dX1_outcomeNow_54 rfl rfl ?_
      refine j_get G hW 2 5 0 (.int (I a0 5)) ka0 (by decide) rfl (by decide) rfl lay_X1 fl_X1_59 rfl rfl dX1_outcomeNow_55 ?_
      refine j_sipush G (999 : Int32) dX1_outcomeNow_58 (by decide) ?_
      refine j_icmp_lt G 68 dX1_outcomeNow_61 (by decide) (fun c8 => ?_) (fun c8 => ?_)
      · have h := h.1 c8
        refine j_iconst G (0 : Int32) dX1_outcomeNow_68 (by decide) ?_
        exact j_reti G () rfl dX1_outcomeNow_69 h rfl
      · have h := h.2 c8
        refine j_iconst G (3 : Int32) dX1_outcomeNow_64 (by decide) ?_
        refine j_goto G 69 dX1_outcomeNow_65 (by decide) ?_
        exact j_reti G () rfl dX1_outcomeNow_69 h rfl
    · have h := h.2 c7
      refine j_iconst G (2 : Int32) dX1_outcomeNow_52 (by decide) ?_
      exact j_reti G () rfl dX1_outcomeNow_53 h rfl
def w_X1_outcomeNow (a0 : Nat) (I : MI) (Q : Int32 →  Prop) : Prop :=
(((I (a0 + 57) 4) = 0 → w_X1_outcomeNow_p38 a0 I Q) ∧
(¬ (I (a0 + 57) 4) = 0 → (((I (a0 + 60) 4) = 0 → w_X1_outcomeNow_p38 a0 I Q) ∧
(¬ (I (a0 + 60) 4) = 0 → ((¬ (I (a0 + 42) 3) = 0 → w_X1_outcomeNow_p38 a0 I Q) ∧
((I (a0 + 42) 3) = 0 → Q (1 : Int32)))))))
set_option maxHeartbeats 4000000 in
set_option maxRecDepth 100000 in
theorem c_X1_outcomeNow (K : Kx) (hW : WFK K) (l : Launch) (a0 : Nat) (k0 : (kG K a0).1 = 3) (I : MI) (J : MJ) (B : MR) (Q : Int32 →  Prop) (h : w_X1_outcomeNow a0 I Q) : Con K l yX1_outcomeNow (wsT yX1_outcomeNow cX1_outcomeNow 1 (some .int)) rm_X1_outcomeNow [.ref a0] (I, J, B) (va_Qi (S := Unit) (fun r _ => Q r) (fun u t => HP K (I, J, B) t.heap) (AA K)) := by
  refine Con.ofJ RX1 rfl (by decide) (Nat.le_of_ble_eq_true rfl) (fun m H0 w G => ?_)
  unfold w_X1_outcomeNow at h
  show Jg K m 1 H0 w 0 [(0, .ref a0)] [] (I, J, B)
  refine j_aload_n G 0 0 dX1_outcomeNow_0 rfl rfl ?_
  have kk1 : kG K (a0 + 38) = (26, 2) := wk_3_38 hW k0
  refine j_get G hW 2 4 41 (.ref (a0 + 38)) k0 (by decide) rfl (by decide) rfl lay_X1 fl_X1_33 rfl rfl dX1_outcomeNow_1 ?_
  refine j_iconst G (0 : Int32) dX1_outcomeNow_4 (by decide) ?_
  have kk2 : (kG K (a0 + 57)).1 = 7 := wk_a26 (i := (0 : Int32)) hW kk1 (vpc rfl) (ad1 (j := 0) (by decide) rfl)
  refine j_aald26 G hW (i := (0 : Int32)) (b := a0 + 57) kk1 (vpc rfl) (ad1 (j := 0) (by decide) rfl) dX1_outcomeNow_5 ?_
  refine j_get G hW 6 4 0 (.int (I (a0 + 57) 4)) kk2 (by decide) rfl (by decide) rfl lay_X5 fl_X1_139 rfl rfl dX1_outcomeNow_6 ?_
  refine j_if_eq G 38 dX1_outcomeNow_9 (by decide) (fun c3 => ?_) (fun c3 => ?_)
  · have h := h.1 c3
    exact m_X1_outcomeNow_p38 G hW a0 k0 h
  · have h := h.2 c3
    refine j_aload_n G 0 0 dX1_outcomeNow_12 rfl rfl ?_
    refine j_get G hW 2 4 41 (.ref (a0 + 38)) k0 (by decide) rfl (by decide) rfl lay_X1 fl_X1_33 rfl rfl dX1_outcomeNow_13 ?_
    refine j_iconst G (1 : Int32) dX1_outcomeNow_16 (by decide) ?_
    have kk9 : (kG K (a0 + 60)).1 = 7 := wk_a26 (i := (1 : Int32)) hW kk1 (vpc rfl) (ad1 (j := 1) (by decide) rfl)
    refine j_aald26 G hW (i := (1 : Int32)) (b := a0 + 60) kk1 (vpc rfl) (ad1 (j := 1) (by decide) rfl) dX1_outcomeNow_17 ?_
    refine j_get G hW 6 4 0 (.int (I (a0 + 60) 4)) kk9 (by decide) rfl (by decide) rfl lay_X5 fl_X1_139 rfl rfl dX1_outcomeNow_18 ?_
    refine j_if_eq G 38 dX1_outcomeNow_21 (by decide) (fun c10 => ?_) (fun c10 => ?_)
    · have h := h.1 c10
      exact m_X1_outcomeNow_p38 G hW a0 k0 h
    · have h := h.2 c10
      refine j_aload_n G 0 0 dX1_outcomeNow_24 rfl rfl ?_
      have kk11 : kG K (a0 + 37) = (25, 6) := wk_3_37 hW k0
      refine j_get G hW 2 3 40 (.ref (a0 + 37)) k0 (by decide) rfl (by decide) rfl lay_X1 fl_X1_27 rfl rfl dX1_outcomeNow_25 ?_
      refine j_iconst G (1 : Int32) dX1_outcomeNow_28 (by decide) ?_
      have kk12 : (kG K (a0 + 42)).1 = 5 := wk_a25 (i := (1 : Int32)) hW kk11 (vpc rfl) (ad1 (j := 1) (by decide) rfl)
      refine j_aald25 G hW (i := (1 : Int32)) (b := a0 + 42) kk11 (vpc rfl) (ad1 (j := 1) (by decide) rfl) dX1_outcomeNow_29 ?_
      refine j_get G hW 4 3 0 (.int (I (a0 + 42) 3)) kk12 (by decide) rfl (by decide) rfl lay_X3 fl_X1_142 rfl rfl dX1_outcomeNow_30 ?_
      refine j_if_ne G 38 dX1_outcomeNow_33 (by decide) (fun c13 => ?_) (fun c13 => ?_)
      · have h := h.1 c13
        exact m_X1_outcomeNow_p38 G hW a0 k0 h
      · have h := h.2 c13
        refine j_iconst G (1 : Int32) dX1_outcomeNow_36 (by decide) ?_
        exact j_reti G () rfl dX1_outcomeNow_37 h rfl
abbrev rm_X1_oneCycle : Room := { frames := 4, cells := 0, slots := 0, locals := 92 }
def w_X1_oneCycle (a0 : Nat) (I : MI) (Q : MI → Prop) : Prop :=
(∀ I1, I1 = ui I a0 5 ((I a0 5) + (1 : Int32)) →
(∀ I2, I2 = ui I1 a0 15 (0 : Int32) →
(w_X1_writeOne a0 I2 (fun I3 =>
(w_X1_runnerTries a0 I3 (fun I4 =>
(w_X1_workerTries a0 I4 (fun I5 =>
(w_X1_slip a0 I5 (fun r6 =>
(∀ I7, I7 = ui I5 a0 8 (if (I5 a0 8) < r6 then r6 else (I5 a0 8)) →
(∀ I8, I8 = ui I7 a0 9 (if r6 < (I7 a0 9) then r6 else (I7 a0 9)) →
(∀ I9, I9 = ui I8 a0 10 ((I8 a0 10) + r6) →
(w_X1_outcomeNow a0 I9 (fun r10 =>
(∀ I11, I11 = ui I9 a0 6 r10 →
Q I11))))))))))))))))
set_option maxHeartbeats 4000000 in
set_option maxRecDepth 100000 in
theorem c_X1_oneCycle (K : Kx) (hW : WFK K) (l : Launch) (a0 : Nat) (k0 : (kG K a0).1 = 3) (I : MI) (J : MJ) (B : MR) (Q : MI → Prop) (h : w_X1_oneCycle a0 I Q) : Con K l yX1_oneCycle (wsT yX1_oneCycle cX1_oneCycle 2 none) rm_X1_oneCycle [.ref a0] (I, J, B) (va_Qv (S := MI) Q (fun u t => HP K (u, J, B) t.heap) (AA K)) := by
  refine Con.ofJ RX1 rfl (by decide) (Nat.le_of_ble_eq_true rfl) (fun m H0 w G => ?_)
  unfold w_X1_oneCycle at h
  show Jg K m 2 H0 w 0 [(0, .ref a0)] [] (I, J, B)
  refine j_aload_n G 0 0 dX1_oneCycle_0 rfl rfl ?_
  refine j_dup G rfl dX1_oneCycle_1 ?_
  refine j_get G hW 2 5 0 (.int (I a0 5)) k0 (by decide) rfl (by decide) rfl lay_X1 fl_X1_59 rfl rfl dX1_oneCycle_2 ?_
  refine j_iconst G (1 : Int32) dX1_oneCycle_5 (by decide) ?_
  refine j_iadd G dX1_oneCycle_6 ?_
  refine j_put G hW 2 5 tyX1 (tyX1 5) tyX1_ok nmX1 k0 (by decide) rfl (by decide) rfl lay_X1 fl_X1_59 rfl rfl (tyX1_ok 5 (by decide)) rfl rfl dX1_oneCycle_7 ?_
  refine j_mI (fun I1 eI1 => ?_)
  have h := h I1 eI1
  refine j_aload_n G 0 0 dX1_oneCycle_10 rfl rfl ?_
  refine j_iconst G (0 : Int32) dX1_oneCycle_11 (by decide) ?_
  refine j_put G hW 2 15 tyX1 (tyX1 15) tyX1_ok nmX1 k0 (by decide) rfl (by decide) rfl lay_X1 fl_X1_113 rfl rfl (tyX1_ok 15 (by decide)) (by decide) (by decide) dX1_oneCycle_12 ?_
  refine j_mI (fun I2 eI2 => ?_)
  have h := h I2 eI2
  refine j_aload_n G 0 0 dX1_oneCycle_15 rfl rfl ?_
  refine j_cv (rn_V G hW (ci := 2) (n := 0) (As := []) (rest := []) (c_X1_writeOne K hW l a0 k0 I2 J B _ h) k0 (by decide) rfl ml_X1_117 im_X1_writeOne se_X1_writeOne in_X1 co_X1_writeOne rfl (by decide +kernel) rfl rfl (by decide) (by decide) rfl rfl (Nat.le_of_ble_eq_true rfl) dX1_oneCycle_16) (fun I3 h => ?_)
  refine j_aload_n G 0 0 dX1_oneCycle_19 rfl rfl ?_
  refine j_cv (rn_V G hW (ci := 2) (n := 0) (As := []) (rest := []) (c_X1_runnerTries K hW l a0 k0 I3 J B _ h) k0 (by decide) rfl ml_X1_120 im_X1_runnerTries se_X1_runnerTries in_X1 co_X1_runnerTries rfl (by decide +kernel) rfl rfl (by decide) (by decide) rfl rfl (Nat.le_of_ble_eq_true rfl) dX1_oneCycle_20) (fun I4 h => ?_)
  refine j_aload_n G 0 0 dX1_oneCycle_23 rfl rfl ?_
  refine j_cv (rn_V G hW (ci := 2) (n := 0) (As := []) (rest := []) (c_X1_workerTries K hW l a0 k0 I4 J B _ h) k0 (by decide) rfl ml_X1_123 im_X1_workerTries se_X1_workerTries in_X1 co_X1_workerTries rfl (by decide +kernel) rfl rfl (by decide) (by decide) rfl rfl (Nat.le_of_ble_eq_true rfl) dX1_oneCycle_24) (fun I5 h => ?_)
  refine j_aload_n G 0 0 dX1_oneCycle_27 rfl rfl ?_
  refine j_ci (rn_V G hW (ci := 2) (n := 0) (As := []) (rest := []) (c_X1_slip K hW l a0 k0 I5 J B _ h) k0 (by decide) rfl ml_X1_126 im_X1_slip se_X1_slip in_X1 co_X1_slip rfl (by decide +kernel) rfl rfl (by decide) (by decide) rfl rfl (Nat.le_of_ble_eq_true rfl) dX1_oneCycle_28) (fun r6 _ h => ?_)
  refine j_istore_n G 1 [(1, .int r6), (0, .ref a0)] dX1_oneCycle_31 rfl (by decide) rfl ?_
  refine j_aload_n G 1 0 dX1_oneCycle_32 rfl rfl ?_
  refine j_aload_n G 1 0 dX1_oneCycle_33 rfl rfl ?_
  refine j_get G hW 2 8 0 (.int (I5 a0 8)) k0 (by decide) rfl (by decide) rfl lay_X1 fl_X1_70 rfl rfl dX1_oneCycle_34 ?_
  refine j_iload_n G 0 1 dX1_oneCycle_37 rfl rfl ?_
  refine j_mmax G ml_X1_101 st_J9_max_7cf53 in_J9 co_J9_max_7cf53 (by decide) (by decide) (Nat.le_of_ble_eq_true rfl) dX1_oneCycle_38 ?_
  refine j_put G hW 2 8 tyX1 (tyX1 8) tyX1_ok nmX1 k0 (by decide) rfl (by decide) rfl lay_X1 fl_X1_70 rfl rfl (tyX1_ok 8 (by decide)) rfl rfl dX1_oneCycle_41 ?_
  refine j_mI (fun I7 eI7 => ?_)
  have h := h I7 eI7
  refine j_aload_n G 1 0 dX1_oneCycle_44 rfl rfl ?_
  refine j_aload_n G 1 0 dX1_oneCycle_45 rfl rfl ?_
  refine j_get G hW 2 9 0 (.int (I7 a0 9)) k0 (by decide) rfl (by decide) rfl lay_X1 fl_X1_73 rfl rfl dX1_oneCycle_46 ?_
  refine j_iload_n G 0 1 dX1_oneCycle_49 rfl rfl ?_
  refine j_mmin G ml_X1_130 st_J9_min_7cf53 in_J9 co_J9_min_7cf53 (by decide) (by decide) (Nat.le_of_ble_eq_true rfl) dX1_oneCycle_50 ?_
  refine j_put G hW 2 9 tyX1 (tyX1 9) tyX1_ok nmX1 k0 (by decide) rfl (by decide) rfl lay_X1 fl_X1_73 rfl rfl (tyX1_ok 9 (by decide)) rfl rfl dX1_oneCycle_53 ?_
  refine j_mI (fun I8 eI8 => ?_)
  have h := h I8 eI8
  refine j_aload_n G 1 0 dX1_oneCycle_56 rfl rfl ?_
  refine j_dup G rfl dX1_oneCycle_57 ?_
  refine j_get G hW 2 10 0 (.int (I8 a0 10)) k0 (by decide) rfl (by decide) rfl lay_X1 fl_X1_76 rfl rfl dX1_oneCycle_58 ?_
  refine j_iload_n G 0 1 dX1_oneCycle_61 rfl rfl ?_
  refine j_iadd G dX1_oneCycle_62 ?_
  refine j_put G hW 2 10 tyX1 (tyX1 10) tyX1_ok nmX1 k0 (by decide) rfl (by decide) rfl lay_X1 fl_X1_76 rfl rfl (tyX1_ok 10 (by decide)) rfl rfl dX1_oneCycle_63 ?_
  refine j_mI (fun I9 eI9 => ?_)
  have h := h I9 eI9
  refine j_aload_n G 1 0 dX1_oneCycle_66 rfl rfl ?_
  refine j_aload_n G 1 0 dX1_oneCycle_67 rfl rfl ?_
  refine j_ci (rn_V G hW (ci := 2) (n := 0) (As := []) (rest := [.ref a0]) (c_X1_outcomeNow K hW l a0 k0 I9 J B _ h) k0 (by decide) rfl ml_X1_133 im_X1_outcomeNow se_X1_outcomeNow in_X1 co_X1_outcomeNow rfl (by decide +kernel) rfl rfl (by decide) (by decide) rfl rfl (Nat.le_of_ble_eq_true rfl) dX1_oneCycle_68) (fun r10 _ h => ?_)
  refine j_put G hW 2 6 tyX1 (tyX1 6) tyX1_ok nmX1 k0 (by decide) rfl (by decide) rfl lay_X1 fl_X1_63 rfl rfl (tyX1_ok 6 (by decide)) rfl rfl dX1_oneCycle_71 ?_
  refine j_mI (fun I11 eI11 => ?_)
  have h := h I11 eI11
  exact j_retv G I11 dX1_oneCycle_74 h rfl
abbrev rm_X1_goOn : Room := { frames := 5, cells := 0, slots := 0, locals := 113 }
def w_X1_goOn_l2 (a0 : Nat) (x1 : Int32)   (Q : Int32 → MI → Prop) (rec : Int32 → MI → Prop) (x2 : Int32) (I : MI) : Prop :=
((x1 ≤ x2 → Q x2 I) ∧
(¬ x1 ≤ x2 → ((¬ (I a0 6) = 0 → Q x2 I) ∧
((I a0 6) = 0 → (w_X1_oneCycle a0 I (fun I3 =>
rec (x2 + 1) I3))))))
set_option maxHeartbeats 4000000 in
set_option maxRecDepth 100000 in
theorem m_X1_goOn_l2 {K : Kx} {l : Launch} {m : MethodId} {H0 : Heap} {Q : Int32 → MI → Prop} {w : HW} {J : MJ} {B : MR} (G : Gd l rm_X1_goOn K m RX1 cX1_goOn 3 H0 (some .int) (va_Qi (S := MI) Q (fun u t => HP K (u, J, B) t.heap) (AA K)) w) (hW : WFK K) (a0 : Nat) (x1 : Int32) (x2 : Int32) (ka0 : (kG K a0).1 = 3) (I : MI)   (h : Lp2 (w_X1_goOn_l2 a0 x1 Q) x2 I) : Jg K m 3 H0 w 2 [(0, .ref a0), (1, .int x1), (2, .int x2)] [] (I, J, B) := by
  obtain ⟨n, h⟩ := h
  refine lpN2_ind (P := (fun (x2 : Int32) (I : MI) => Jg K m 3 H0 w 2 [(0, .ref a0), (1, .int x1), (2, .int x2)] [] (I, J, B))) (fun rec hrec x2 I h => ?_) n x2 I h
  unfold w_X1_goOn_l2 at h
  refine j_iload_n G 2 2 dX1_goOn_2 rfl rfl ?_
  refine j_iload_n G 1 1 dX1_goOn_3 rfl rfl ?_
  refine j_icmp_ge G 24 dX1_goOn_4 (by decide) (fun c1 => ?_) (fun c1 => ?_)
  · have h := h.1 c1
    refine j_iload_n G 2 2 dX1_goOn_24 rfl rfl ?_
    exact j_reti G I rfl dX1_goOn_25 h rfl
  · have h := h.2 c1
    refine j_aload_n G 0 0 dX1_goOn_7 rfl rfl ?_
    refine j_get G hW 2 6 0 (.int (I a0 6)) ka0 (by decide) rfl (by decide) rfl lay_X1 fl_X1_63 rfl rfl dX1_goOn_8 ?_
    refine j_if_ne G 24 dX1_goOn_11 (by decide) (fun c2 => ?_) (fun c2 => ?_)
    · have h := h.1 c2
      refine j_iload_n G 2 2 dX1_goOn_24 rfl rfl ?_
      exact j_reti G I rfl dX1_goOn_25 h rfl
    · have h := h.2 c2
      refine j_aload_n G 0 0 dX1_goOn_14 rfl rfl ?_
      refine j_cv (rn_V G hW (ci := 2) (n := 0) (As := []) (rest := []) (c_X1_oneCycle K hW l a0 ka0 I J B _ h) ka0 (by decide) rfl ml_X1_110 im_X1_oneCycle se_X1_oneCycle in_X1 co_X1_oneCycle rfl (by decide +kernel) rfl rfl (by decide) (by decide) rfl rfl (Nat.le_of_ble_eq_true rfl) dX1_goOn_15) (fun I3 h => ?_)
      refine j_iinc G 2 (x2 + 1) [(2, .int (x2 + 1)), (0, .ref a0), (1, .int x1)] dX1_goOn_18 rfl rfl (by decide) rfl ?_
      refine j_goto G 2 dX1_goOn_21 (by decide) ?_
      exact Jg.sub [1, 2, 0] rfl (hrec (x2 + 1) I3 h)
def w_X1_goOn (a0 : Nat) (x1 : Int32) (I : MI) (Q : Int32 → MI → Prop) : Prop :=
Lp2 (w_X1_goOn_l2 a0 x1 Q) (0 : Int32) I
set_option maxHeartbeats 4000000 in
set_option maxRecDepth 100000 in
theorem c_X1_goOn (K : Kx) (hW : WFK K) (l : Launch) (a0 : Nat) (x1 : Int32) (k0 : (kG K a0).1 = 3) (I : MI) (J : MJ) (B : MR) (Q : Int32 → MI → Prop) (h : w_X1_goOn a0 x1 I Q) : Con K l yX1_goOn (wsT yX1_goOn cX1_goOn 3 (some .int)) rm_X1_goOn [.ref a0, .int x1] (I, J, B) (va_Qi (S := MI) Q (fun u t => HP K (u, J, B) t.heap) (AA K)) := by
  refine Con.ofJ RX1 rfl (by decide) (Nat.le_of_ble_eq_true rfl) (fun m H0 w G => ?_)
  unfold w_X1_goOn at h
  show Jg K m 3 H0 w 0 [(0, .ref a0), (1, .int x1)] [] (I, J, B)
  refine j_iconst G (0 : Int32) dX1_goOn_0 (by decide) ?_
  refine j_istore_n G 2 [(2, .int (0 : Int32)), (0, .ref a0), (1, .int x1)] dX1_goOn_1 rfl (by decide) rfl ?_
  refine Jg.sub [1, 2, 0] rfl (m_X1_goOn_l2 G hW a0 x1 (0 : Int32) k0 I h)
abbrev rm_X1_figure : Room := { frames := 1, cells := 0, slots := 0, locals := 20 }
def w_X1_figure (a0 : Nat) (x1 : Int32) (I : MI) (Q : Int32 →  Prop) : Prop :=
((x1 = (0 : Int32) → Q (I a0 5)) ∧
(x1 = (1 : Int32) → Q (I a0 6)) ∧
(x1 = (2 : Int32) → Q (I (a0 + 1) 1)) ∧
(x1 = (3 : Int32) → Q (I (a0 + 1) 4)) ∧
(x1 = (4 : Int32) → Q (I a0 7)) ∧
(x1 = (5 : Int32) → (w_X1_slip a0 I (fun r3 =>
Q r3))) ∧
(x1 = (6 : Int32) → Q (I a0 8)) ∧
(x1 = (7 : Int32) → Q (I a0 9)) ∧
(x1 = (8 : Int32) → Q (I a0 10)) ∧
(x1 = (9 : Int32) → Q (I a0 11)) ∧
(x1 = (11 : Int32) → Q (I a0 12)) ∧
(¬ x1 = (0 : Int32) → ¬ x1 = (1 : Int32) → ¬ x1 = (2 : Int32) → ¬ x1 = (3 : Int32) → ¬ x1 = (4 : Int32) → ¬ x1 = (5 : Int32) → ¬ x1 = (6 : Int32) → ¬ x1 = (7 : Int32) → ¬ x1 = (8 : Int32) → ¬ x1 = (9 : Int32) → ¬ x1 = (11 : Int32) → Q (-1 : Int32)))
set_option maxHeartbeats 4000000 in
set_option maxRecDepth 100000 in
theorem c_X1_figure (K : Kx) (hW : WFK K) (l : Launch) (a0 : Nat) (x1 : Int32) (k0 : (kG K a0).1 = 3) (I : MI) (J : MJ) (B : MR) (Q : Int32 →  Prop) (h : w_X1_figure a0 x1 I Q) : Con K l yX1_figure (wsT yX1_figure cX1_figure 2 (some .int)) rm_X1_figure [.ref a0, .int x1] (I, J, B) (va_Qi (S := Unit) (fun r _ => Q r) (fun u t => HP K (I, J, B) t.heap) (AA K)) := by
  refine Con.ofJ RX1 rfl (by decide) (Nat.le_of_ble_eq_true rfl) (fun m H0 w G => ?_)
  unfold w_X1_figure at h
  show Jg K m 2 H0 w 0 [(0, .ref a0), (1, .int x1)] [] (I, J, B)
  refine j_iload_n G 1 1 dX1_figure_0 rfl rfl ?_
  by_cases c4 : x1 = (0 : Int32)
  · have h := h.1 (c4)
    refine j_tableIn G 64 dX1_figure_1 (by rw [c4]; decide) (by rw [c4]; decide) (by rw [c4] <;> rfl) (by decide) ?_
    refine j_aload_n G 0 0 dX1_figure_64 rfl rfl ?_
    refine j_get G hW 2 5 0 (.int (I a0 5)) k0 (by decide) rfl (by decide) rfl lay_X1 fl_X1_59 rfl rfl dX1_figure_65 ?_
    exact j_reti G () rfl dX1_figure_68 h rfl
  · skip
    by_cases c5 : x1 = (1 : Int32)
    · have h := h.2.1 (c5)
      refine j_tableIn G 69 dX1_figure_1 (by rw [c5]; decide) (by rw [c5]; decide) (by rw [c5] <;> rfl) (by decide) ?_
      refine j_aload_n G 0 0 dX1_figure_69 rfl rfl ?_
      refine j_get G hW 2 6 0 (.int (I a0 6)) k0 (by decide) rfl (by decide) rfl lay_X1 fl_X1_63 rfl rfl dX1_figure_70 ?_
      exact j_reti G () rfl dX1_figure_73 h rfl
    · skip
      by_cases c6 : x1 = (2 : Int32)
      · have h := h.2.2.1 (c6)
        refine j_tableIn G 74 dX1_figure_1 (by rw [c6]; decide) (by rw [c6]; decide) (by rw [c6] <;> rfl) (by decide) ?_
        refine j_aload_n G 0 0 dX1_figure_74 rfl rfl ?_
        have kk1 : kG K (a0 + 1) = (4, 0) := wk_3_1 hW k0
        refine j_get G hW 2 0 4 (.ref (a0 + 1)) k0 (by decide) rfl (by decide) rfl lay_X1 fl_X1_12 rfl rfl dX1_figure_75 ?_
        refine j_get G hW 3 1 0 (.int (I (a0 + 1) 1)) (congrArg Prod.fst kk1) (by decide) rfl (by decide) rfl lay_X2 fl_X1_253 rfl rfl dX1_figure_78 ?_
        exact j_reti G () rfl dX1_figure_81 h rfl
      · skip
        by_cases c7 : x1 = (3 : Int32)
        · have h := h.2.2.2.1 (c7)
          refine j_tableIn G 82 dX1_figure_1 (by rw [c7]; decide) (by rw [c7]; decide) (by rw [c7] <;> rfl) (by decide) ?_
          refine j_aload_n G 0 0 dX1_figure_82 rfl rfl ?_
          have kk2 : kG K (a0 + 1) = (4, 0) := wk_3_1 hW k0
          refine j_get G hW 2 0 4 (.ref (a0 + 1)) k0 (by decide) rfl (by decide) rfl lay_X1 fl_X1_12 rfl rfl dX1_figure_83 ?_
          refine j_get G hW 3 4 0 (.int (I (a0 + 1) 4)) (congrArg Prod.fst kk2) (by decide) rfl (by decide) rfl lay_X2 fl_X1_244 rfl rfl dX1_figure_86 ?_
          exact j_reti G () rfl dX1_figure_89 h rfl
        · skip
          by_cases c8 : x1 = (4 : Int32)
          · have h := h.2.2.2.2.1 (c8)
            refine j_tableIn G 90 dX1_figure_1 (by rw [c8]; decide) (by rw [c8]; decide) (by rw [c8] <;> rfl) (by decide) ?_
            refine j_aload_n G 0 0 dX1_figure_90 rfl rfl ?_
            refine j_get G hW 2 7 0 (.int (I a0 7)) k0 (by decide) rfl (by decide) rfl lay_X1 fl_X1_69 rfl rfl dX1_figure_91 ?_
            exact j_reti G () rfl dX1_figure_94 h rfl
          · skip
            by_cases c9 : x1 = (5 : Int32)
            · have h := h.2.2.2.2.2.1 (c9)
              refine j_tableIn G 95 dX1_figure_1 (by rw [c9]; decide) (by rw [c9]; decide) (by rw [c9] <;> rfl) (by decide) ?_
              refine j_aload_n G 0 0 dX1_figure_95 rfl rfl ?_
              refine j_ci (rn_V G hW (ci := 2) (n := 0) (As := []) (rest := []) (c_X1_slip K hW l a0 k0 I J B _ h) k0 (by decide) rfl ml_X1_126 im_X1_slip se_X1_slip in_X1 co_X1_slip rfl (by decide +kernel) rfl rfl (by decide) (by decide) rfl rfl (Nat.le_of_ble_eq_true rfl) dX1_figure_96) (fun r3 _ h => ?_)
              exact j_reti G () rfl dX1_figure_99 h rfl
            · skip
              by_cases c10 : x1 = (6 : Int32)
              · have h := h.2.2.2.2.2.2.1 (c10)
                refine j_tableIn G 100 dX1_figure_1 (by rw [c10]; decide) (by rw [c10]; decide) (by rw [c10] <;> rfl) (by decide) ?_
                refine j_aload_n G 0 0 dX1_figure_100 rfl rfl ?_
                refine j_get G hW 2 8 0 (.int (I a0 8)) k0 (by decide) rfl (by decide) rfl lay_X1 fl_X1_70 rfl rfl dX1_figure_101 ?_
                exact j_reti G () rfl dX1_figure_104 h rfl
              · skip
                by_cases c11 : x1 = (7 : Int32)
                · have h := h.2.2.2.2.2.2.2.1 (c11)
                  refine j_tableIn G 105 dX1_figure_1 (by rw [c11]; decide) (by rw [c11]; decide) (by rw [c11] <;> rfl) (by decide) ?_
                  refine j_aload_n G 0 0 dX1_figure_105 rfl rfl ?_
                  refine j_get G hW 2 9 0 (.int (I a0 9)) k0 (by decide) rfl (by decide) rfl lay_X1 fl_X1_73 rfl rfl dX1_figure_106 ?_
                  exact j_reti G () rfl dX1_figure_109 h rfl
                · skip
                  by_cases c12 : x1 = (8 : Int32)
                  · have h := h.2.2.2.2.2.2.2.2.1 (c12)
                    refine j_tableIn G 110 dX1_figure_1 (by rw [c12]; decide) (by rw [c12]; decide) (by rw [c12] <;> rfl) (by decide) ?_
                    refine j_aload_n G 0 0 dX1_figure_110 rfl rfl ?_
                    refine j_get G hW 2 10 0 (.int (I a0 10)) k0 (by decide) rfl (by decide) rfl lay_X1 fl_X1_76 rfl rfl dX1_figure_111 ?_
                    exact j_reti G () rfl dX1_figure_114 h rfl
                  · skip
                    by_cases c13 : x1 = (9 : Int32)
                    · have h := h.2.2.2.2.2.2.2.2.2.1 (c13)
                      refine j_tableIn G 115 dX1_figure_1 (by rw [c13]; decide) (by rw [c13]; decide) (by rw [c13] <;> rfl) (by decide) ?_
                      refine j_aload_n G 0 0 dX1_figure_115 rfl rfl ?_
                      refine j_get G hW 2 11 0 (.int (I a0 11)) k0 (by decide) rfl (by decide) rfl lay_X1 fl_X1_79 rfl rfl dX1_figure_116 ?_
                      exact j_reti G () rfl dX1_figure_119 h rfl
                    · skip
                      by_cases c14 : x1 = (11 : Int32)
                      · have h := h.2.2.2.2.2.2.2.2.2.2.1 (c14)
                        refine j_tableIn G 120 dX1_figure_1 (by rw [c14]; decide) (by rw [c14]; decide) (by rw [c14] <;> rfl) (by decide) ?_
                        refine j_aload_n G 0 0 dX1_figure_120 rfl rfl ?_
                        refine j_get G hW 2 12 0 (.int (I a0 12)) k0 (by decide) rfl (by decide) rfl lay_X1 fl_X1_82 rfl rfl dX1_figure_121 ?_
                        exact j_reti G () rfl dX1_figure_124 h rfl
                      · skip
                        have h := h.2.2.2.2.2.2.2.2.2.2.2 c4 c5 c6 c7 c8 c9 c10 c11 c12 c13 c14
                        by_cases c15 : x1 = (10 : Int32)
                        · refine j_tableIn G 125 dX1_figure_1 (by rw [c15]; decide) (by rw [c15]; decide) (by rw [c15] <;> rfl) (by decide) ?_
                          refine j_iconst G (-1 : Int32) dX1_figure_125 (by decide) ?_
                          exact j_reti G () rfl dX1_figure_126 h rfl
                        · skip
                          have nc4 := sw_ne (n := 0) rfl c4
                          have nc5 := sw_ne (n := 1) rfl c5
                          have nc6 := sw_ne (n := 2) rfl c6
                          have nc7 := sw_ne (n := 3) rfl c7
                          have nc8 := sw_ne (n := 4) rfl c8
                          have nc9 := sw_ne (n := 5) rfl c9
                          have nc10 := sw_ne (n := 6) rfl c10
                          have nc11 := sw_ne (n := 7) rfl c11
                          have nc12 := sw_ne (n := 8) rfl c12
                          have nc13 := sw_ne (n := 9) rfl c13
                          have nc15 := sw_ne (n := 10) rfl c15
                          have nc14 := sw_ne (n := 11) rfl c14
                          refine j_tableOut G 125 dX1_figure_1 (by omega) (by decide) ?_
                          refine j_iconst G (-1 : Int32) dX1_figure_125 (by decide) ?_
                          exact j_reti G () rfl dX1_figure_126 h rfl
