abbrev rm_X2_clear : Room := { frames := 1, cells := 0, slots := 0, locals := 23 }
def w_X2_clear (a0 : Nat) (I : MI) (Q : MI → Prop) : Prop :=
(∀ I1, I1 = ui I a0 1 (0 : Int32) →
(∀ I2, I2 = ui I1 a0 2 (3 : Int32) →
(∀ I3, I3 = ui I2 a0 3 (0 : Int32) →
(∀ I5, I5 = uf I3 (a0 + 2) 6 (4 : Int32) →
(∀ I7, I7 = uf I5 (a0 + 3) 32 (0 : Int32) →
(∀ I9, I9 = uf I7 (a0 + 4) 8 (0 : Int32) →
(∀ I12, I12 = ui I9 (a0 + 9) 0 (8 : Int32) →
Q I12)))))))
set_option maxHeartbeats 4000000 in
set_option maxRecDepth 100000 in
theorem c_X2_clear (K : Kx) (hW : WFK K) (l : Launch) (a0 : Nat) (k0 : (kG K a0).1 = 4) (I : MI) (J : MJ) (B : MR) (Q : MI → Prop) (h : w_X2_clear a0 I Q) : Con K l yX2_clear (wsT yX2_clear cX2_clear 1 none) rm_X2_clear [.ref a0] (I, J, B) (va_Qv (S := MI) Q (fun u t => HP K (u, J, B) t.heap) (AA K)) := by
  refine Con.ofJ RX2 rfl (by decide) (Nat.le_of_ble_eq_true rfl) (fun m H0 w G => ?_)
  unfold w_X2_clear at h
  show Jg K m 1 H0 w 0 [(0, .ref a0)] [] (I, J, B)
  refine j_aload_n G 0 0 dX2_clear_0 rfl rfl ?_
  refine j_iconst G (0 : Int32) dX2_clear_1 (by decide) ?_
  refine j_put G hW 3 1 tyX2 (tyX2 1) tyX2_ok nmX2 k0 (by decide) rfl (by decide) rfl lay_X2 fl_X2_43 rfl rfl (tyX2_ok 1 (by decide)) rfl rfl dX2_clear_2 ?_
  refine j_mI (fun I1 eI1 => ?_)
  have h := h I1 eI1
  refine j_aload_n G 0 0 dX2_clear_5 rfl rfl ?_
  refine j_iconst G (3 : Int32) dX2_clear_6 (by decide) ?_
  refine j_put G hW 3 2 tyX2 (tyX2 2) tyX2_ok nmX2 k0 (by decide) rfl (by decide) rfl lay_X2 fl_X2_47 rfl rfl (tyX2_ok 2 (by decide)) rfl rfl dX2_clear_7 ?_
  refine j_mI (fun I2 eI2 => ?_)
  have h := h I2 eI2
  refine j_aload_n G 0 0 dX2_clear_10 rfl rfl ?_
  refine j_iconst G (0 : Int32) dX2_clear_11 (by decide) ?_
  refine j_put G hW 3 3 tyX2 (tyX2 3) tyX2_ok nmX2 k0 (by decide) rfl (by decide) rfl lay_X2 fl_X2_50 rfl rfl (tyX2_ok 3 (by decide)) rfl rfl dX2_clear_12 ?_
  refine j_mI (fun I3 eI3 => ?_)
  have h := h I3 eI3
  refine j_aload_n G 0 0 dX2_clear_15 rfl rfl ?_
  have kk4 : kG K (a0 + 2) = (20, 6) := wk_4_2 hW k0
  refine j_get G hW 3 5 5 (.ref (a0 + 2)) k0 (by decide) rfl (by decide) rfl lay_X2 fl_X2_17 rfl rfl dX2_clear_16 ?_
  refine j_iconst G (4 : Int32) dX2_clear_19 (by decide) ?_
  refine j_fill G hW kk4 (by decide) ml_X2_53 st_J7_fill_53178 in_J7 co_J7_fill_53178 (by decide) (by decide) (Nat.le_of_ble_eq_true rfl) dX2_clear_20 ?_
  refine j_mI (fun I5 eI5 => ?_)
  have h := h I5 eI5
  refine j_aload_n G 0 0 dX2_clear_23 rfl rfl ?_
  have kk6 : kG K (a0 + 3) = (20, 32) := wk_4_3 hW k0
  refine j_get G hW 3 6 6 (.ref (a0 + 3)) k0 (by decide) rfl (by decide) rfl lay_X2 fl_X2_21 rfl rfl dX2_clear_24 ?_
  refine j_iconst G (0 : Int32) dX2_clear_27 (by decide) ?_
  refine j_fill G hW kk6 (by decide) ml_X2_53 st_J7_fill_53178 in_J7 co_J7_fill_53178 (by decide) (by decide) (Nat.le_of_ble_eq_true rfl) dX2_clear_28 ?_
  refine j_mI (fun I7 eI7 => ?_)
  have h := h I7 eI7
  refine j_aload_n G 0 0 dX2_clear_31 rfl rfl ?_
  have kk8 : kG K (a0 + 4) = (20, 8) := wk_4_4 hW k0
  refine j_get G hW 3 7 7 (.ref (a0 + 4)) k0 (by decide) rfl (by decide) rfl lay_X2 fl_X2_24 rfl rfl dX2_clear_32 ?_
  refine j_iconst G (0 : Int32) dX2_clear_35 (by decide) ?_
  refine j_fill G hW kk8 (by decide) ml_X2_53 st_J7_fill_53178 in_J7 co_J7_fill_53178 (by decide) (by decide) (Nat.le_of_ble_eq_true rfl) dX2_clear_36 ?_
  refine j_mI (fun I9 eI9 => ?_)
  have h := h I9 eI9
  refine j_aload_n G 0 0 dX2_clear_39 rfl rfl ?_
  have kk10 : kG K (a0 + 1) = (24, 25) := wk_4_1 hW k0
  refine j_get G hW 3 0 4 (.ref (a0 + 1)) k0 (by decide) rfl (by decide) rfl lay_X2 fl_X2_11 rfl rfl dX2_clear_40 ?_
  refine j_iconst G (0 : Int32) dX2_clear_43 (by decide) ?_
  have kk11 : (kG K (a0 + 9)).1 = 2 := wk_a24 (i := (0 : Int32)) hW kk10 (vpc rfl) (ad1 (j := 0) (by decide) rfl)
  refine j_aald24 G hW (i := (0 : Int32)) (b := a0 + 9) kk10 (vpc rfl) (ad1 (j := 0) (by decide) rfl) dX2_clear_44 ?_
  refine j_bipush G (8 : Int32) dX2_clear_45 (by decide) ?_
  refine j_put G hW 1 0 tyX0 (tyX0 0) tyX0_ok nmX0 kk11 (by decide) rfl (by decide) rfl lay_X0 fl_X2_59 rfl rfl (tyX0_ok 0 (by decide)) rfl rfl dX2_clear_47 ?_
  refine j_mI (fun I12 eI12 => ?_)
  have h := h I12 eI12
  exact j_retv G I12 dX2_clear_50 h rfl
abbrev rm_X2_copyFrom : Room := { frames := 1, cells := 0, slots := 0, locals := 48 }
def w_X2_copyFrom_l2 (a0 : Nat) (a1 : Nat)  (ke31 : Int32 → MI → Prop) (Q : MI → Prop) (rec : Int32 → MI → Prop) (x2 : Int32) (I : MI) : Prop :=
(((I a1 1) < x2 → ke31 x2 I) ∧
(¬ (I a1 1) < x2 → (vp_in x2 25 ∧
(vp_in x2 25 ∧
(w_X0_copyFrom (a0 + 9 + ix x2) (a1 + 9 + ix x2) I (fun I8 =>
rec (x2 + 1) I8))))))
set_option maxHeartbeats 4000000 in
set_option maxRecDepth 100000 in
theorem m_X2_copyFrom_l2 {K : Kx} {l : Launch} {m : MethodId} {H0 : Heap} {Q : MI → Prop} {w : HW} {J : MJ} {B : MR} (G : Gd l rm_X2_copyFrom K m RX2 cX2_copyFrom 3 H0 none (va_Qv (S := MI) Q (fun u t => HP K (u, J, B) t.heap) (AA K)) w) (hW : WFK K) (a0 : Nat) (a1 : Nat) (x2 : Int32) (ka0 : (kG K a0).1 = 4) (ka1 : (kG K a1).1 = 4) (I : MI) (ke31 : Int32 → MI → Prop) (hke31 : ∀ (x2 : Int32) (I : MI), ke31 x2 I → Jg K m 3 H0 w 31 [(0, .ref a0), (1, .ref a1)] [] (I, J, B)) (h : Lp2 (w_X2_copyFrom_l2 a0 a1 ke31 Q) x2 I) : Jg K m 3 H0 w 2 [(0, .ref a0), (1, .ref a1), (2, .int x2)] [] (I, J, B) := by
  obtain ⟨n, h⟩ := h
  refine lpN2_ind (P := (fun (x2 : Int32) (I : MI) => Jg K m 3 H0 w 2 [(0, .ref a0), (1, .ref a1), (2, .int x2)] [] (I, J, B))) (fun rec hrec x2 I h => ?_) n x2 I h
  unfold w_X2_copyFrom_l2 at h
  refine j_iload_n G 2 2 dX2_copyFrom_2 rfl rfl ?_
  refine j_aload_n G 1 1 dX2_copyFrom_3 rfl rfl ?_
  refine j_get G hW 3 1 0 (.int (I a1 1)) ka1 (by decide) rfl (by decide) rfl lay_X2 fl_X2_43 rfl rfl dX2_copyFrom_4 ?_
  refine j_icmp_gt G 31 dX2_copyFrom_7 (by decide) (fun c1 => ?_) (fun c1 => ?_)
  · have h := h.1 c1
    exact Jg.sub [0, 1] rfl (hke31 x2 I h)
  · have h := h.2 c1
    refine j_aload_n G 0 0 dX2_copyFrom_10 rfl rfl ?_
    have kk2 : kG K (a0 + 1) = (24, 25) := wk_4_1 hW ka0
    refine j_get G hW 3 0 4 (.ref (a0 + 1)) ka0 (by decide) rfl (by decide) rfl lay_X2 fl_X2_11 rfl rfl dX2_copyFrom_11 ?_
    refine j_iload_n G 2 2 dX2_copyFrom_14 rfl rfl ?_
    obtain ⟨b3, h⟩ := h
    have kk4 : (kG K (a0 + 9 + ix x2)).1 = 2 := wk_a24 (i := x2) hW kk2 b3 (ad3 rfl)
    refine j_aald24 G hW (i := x2) (b := a0 + 9 + ix x2) kk2 b3 (ad3 rfl) dX2_copyFrom_15 ?_
    refine j_aload_n G 1 1 dX2_copyFrom_16 rfl rfl ?_
    have kk5 : kG K (a1 + 1) = (24, 25) := wk_4_1 hW ka1
    refine j_get G hW 3 0 4 (.ref (a1 + 1)) ka1 (by decide) rfl (by decide) rfl lay_X2 fl_X2_11 rfl rfl dX2_copyFrom_17 ?_
    refine j_iload_n G 2 2 dX2_copyFrom_20 rfl rfl ?_
    obtain ⟨b6, h⟩ := h
    have kk7 : (kG K (a1 + 9 + ix x2)).1 = 2 := wk_a24 (i := x2) hW kk5 b6 (ad3 rfl)
    refine j_aald24 G hW (i := x2) (b := a1 + 9 + ix x2) kk5 b6 (ad3 rfl) dX2_copyFrom_21 ?_
    refine j_cv (rn_V G hW (ci := 1) (n := 1) (As := [.ref (a1 + 9 + ix x2)]) (rest := []) (c_X0_copyFrom K hW l (a0 + 9 + ix x2) (a1 + 9 + ix x2) kk4 kk7 I J B _ h) kk4 (by decide) rfl ml_X2_62 im_X0_copyFrom se_X0_copyFrom in_X0 co_X0_copyFrom rfl (by decide +kernel) rfl rfl (by decide) (by decide) rfl rfl (Nat.le_of_ble_eq_true rfl) dX2_copyFrom_22) (fun I8 h => ?_)
    refine j_iinc G 2 (x2 + 1) [(2, .int (x2 + 1)), (0, .ref a0), (1, .ref a1)] dX2_copyFrom_25 rfl rfl (by decide) rfl ?_
    refine j_goto G 2 dX2_copyFrom_28 (by decide) ?_
    exact Jg.sub [1, 2, 0] rfl (hrec (x2 + 1) I8 h)
def w_X2_copyFrom (a0 : Nat) (a1 : Nat) (I : MI) (Q : MI → Prop) : Prop :=
Lp2 (w_X2_copyFrom_l2 a0 a1 (fun x2_9 I10 => (∀ I11, I11 = ui I10 a0 1 (I10 a1 1) →
(∀ I12, I12 = ui I11 a0 2 (I11 a1 2) →
(∀ I13, I13 = ui I12 a0 3 (I12 a1 3) →
(∀ I14, I14 = ui I13 a0 4 (I13 a1 4) →
(∀ I17, I17 = uc I14 (a1 + 2) (a0 + 2) 6 →
(∀ I20, I20 = uc I17 (a1 + 3) (a0 + 3) 32 →
(∀ I23, I23 = uc I20 (a1 + 4) (a0 + 4) 8 →
(∀ I26, I26 = uc I23 (a1 + 5) (a0 + 5) 100 →
(∀ I29, I29 = uc I26 (a1 + 6) (a0 + 6) 50 →
(∀ I32, I32 = uc I29 (a1 + 7) (a0 + 7) 50 →
Q I32))))))))))) Q) (0 : Int32) I
set_option maxHeartbeats 4000000 in
set_option maxRecDepth 100000 in
theorem c_X2_copyFrom (K : Kx) (hW : WFK K) (l : Launch) (a0 : Nat) (a1 : Nat) (k0 : (kG K a0).1 = 4) (k1 : (kG K a1).1 = 4) (I : MI) (J : MJ) (B : MR) (Q : MI → Prop) (h : w_X2_copyFrom a0 a1 I Q) : Con K l yX2_copyFrom (wsT yX2_copyFrom cX2_copyFrom 3 none) rm_X2_copyFrom [.ref a0, .ref a1] (I, J, B) (va_Qv (S := MI) Q (fun u t => HP K (u, J, B) t.heap) (AA K)) := by
  refine Con.ofJ RX2 rfl (by decide) (Nat.le_of_ble_eq_true rfl) (fun m H0 w G => ?_)
  unfold w_X2_copyFrom at h
  show Jg K m 3 H0 w 0 [(0, .ref a0), (1, .ref a1)] [] (I, J, B)
  refine j_iconst G (0 : Int32) dX2_copyFrom_0 (by decide) ?_
  refine j_istore_n G 2 [(2, .int (0 : Int32)), (0, .ref a0), (1, .ref a1)] dX2_copyFrom_1 rfl (by decide) rfl ?_
  refine Jg.sub [1, 2, 0] rfl (m_X2_copyFrom_l2 G hW a0 a1 (0 : Int32) k0 k1 I _ ?_ h)
  intro x2_9 I10 h
  refine j_aload_n G 0 0 dX2_copyFrom_31 rfl rfl ?_
  refine j_aload_n G 1 1 dX2_copyFrom_32 rfl rfl ?_
  refine j_get G hW 3 1 0 (.int (I10 a1 1)) k1 (by decide) rfl (by decide) rfl lay_X2 fl_X2_43 rfl rfl dX2_copyFrom_33 ?_
  refine j_put G hW 3 1 tyX2 (tyX2 1) tyX2_ok nmX2 k0 (by decide) rfl (by decide) rfl lay_X2 fl_X2_43 rfl rfl (tyX2_ok 1 (by decide)) rfl rfl dX2_copyFrom_36 ?_
  refine j_mI (fun I11 eI11 => ?_)
  have h := h I11 eI11
  refine j_aload_n G 0 0 dX2_copyFrom_39 rfl rfl ?_
  refine j_aload_n G 1 1 dX2_copyFrom_40 rfl rfl ?_
  refine j_get G hW 3 2 0 (.int (I11 a1 2)) k1 (by decide) rfl (by decide) rfl lay_X2 fl_X2_47 rfl rfl dX2_copyFrom_41 ?_
  refine j_put G hW 3 2 tyX2 (tyX2 2) tyX2_ok nmX2 k0 (by decide) rfl (by decide) rfl lay_X2 fl_X2_47 rfl rfl (tyX2_ok 2 (by decide)) rfl rfl dX2_copyFrom_44 ?_
  refine j_mI (fun I12 eI12 => ?_)
  have h := h I12 eI12
  refine j_aload_n G 0 0 dX2_copyFrom_47 rfl rfl ?_
  refine j_aload_n G 1 1 dX2_copyFrom_48 rfl rfl ?_
  refine j_get G hW 3 3 0 (.int (I12 a1 3)) k1 (by decide) rfl (by decide) rfl lay_X2 fl_X2_50 rfl rfl dX2_copyFrom_49 ?_
  refine j_put G hW 3 3 tyX2 (tyX2 3) tyX2_ok nmX2 k0 (by decide) rfl (by decide) rfl lay_X2 fl_X2_50 rfl rfl (tyX2_ok 3 (by decide)) rfl rfl dX2_copyFrom_52 ?_
  refine j_mI (fun I13 eI13 => ?_)
  have h := h I13 eI13
  refine j_aload_n G 0 0 dX2_copyFrom_55 rfl rfl ?_
  refine j_aload_n G 1 1 dX2_copyFrom_56 rfl rfl ?_
  refine j_get G hW 3 4 0 (.int (I13 a1 4)) k1 (by decide) rfl (by decide) rfl lay_X2 fl_X2_66 rfl rfl dX2_copyFrom_57 ?_
  refine j_put G hW 3 4 tyX2 (tyX2 4) tyX2_ok nmX2 k0 (by decide) rfl (by decide) rfl lay_X2 fl_X2_66 rfl rfl (tyX2_ok 4 (by decide)) rfl rfl dX2_copyFrom_60 ?_
  refine j_mI (fun I14 eI14 => ?_)
  have h := h I14 eI14
  refine j_aload_n G 1 1 dX2_copyFrom_63 rfl rfl ?_
  have kk15 : kG K (a1 + 2) = (20, 6) := wk_4_2 hW k1
  refine j_get G hW 3 5 5 (.ref (a1 + 2)) k1 (by decide) rfl (by decide) rfl lay_X2 fl_X2_17 rfl rfl dX2_copyFrom_64 ?_
  refine j_iconst G (0 : Int32) dX2_copyFrom_67 (by decide) ?_
  refine j_aload_n G 0 0 dX2_copyFrom_68 rfl rfl ?_
  have kk16 : kG K (a0 + 2) = (20, 6) := wk_4_2 hW k0
  refine j_get G hW 3 5 5 (.ref (a0 + 2)) k0 (by decide) rfl (by decide) rfl lay_X2 fl_X2_17 rfl rfl dX2_copyFrom_69 ?_
  refine j_iconst G (0 : Int32) dX2_copyFrom_72 (by decide) ?_
  refine j_bipush G (6 : Int32) dX2_copyFrom_73 (by decide) ?_
  refine j_copyi G hW 6 kk15 kk16 (by decide) (by decide) (by decide) (by decide) ml_X2_69 nat_copy st_copy in_J10 (by decide) (by decide) (Nat.le_of_ble_eq_true rfl) dX2_copyFrom_75 ?_
  refine j_mI (fun I17 eI17 => ?_)
  have h := h I17 eI17
  refine j_aload_n G 1 1 dX2_copyFrom_78 rfl rfl ?_
  have kk18 : kG K (a1 + 3) = (20, 32) := wk_4_3 hW k1
  refine j_get G hW 3 6 6 (.ref (a1 + 3)) k1 (by decide) rfl (by decide) rfl lay_X2 fl_X2_21 rfl rfl dX2_copyFrom_79 ?_
  refine j_iconst G (0 : Int32) dX2_copyFrom_82 (by decide) ?_
  refine j_aload_n G 0 0 dX2_copyFrom_83 rfl rfl ?_
  have kk19 : kG K (a0 + 3) = (20, 32) := wk_4_3 hW k0
  refine j_get G hW 3 6 6 (.ref (a0 + 3)) k0 (by decide) rfl (by decide) rfl lay_X2 fl_X2_21 rfl rfl dX2_copyFrom_84 ?_
  refine j_iconst G (0 : Int32) dX2_copyFrom_87 (by decide) ?_
  refine j_bipush G (32 : Int32) dX2_copyFrom_88 (by decide) ?_
  refine j_copyi G hW 32 kk18 kk19 (by decide) (by decide) (by decide) (by decide) ml_X2_69 nat_copy st_copy in_J10 (by decide) (by decide) (Nat.le_of_ble_eq_true rfl) dX2_copyFrom_90 ?_
  refine j_mI (fun I20 eI20 => ?_)
  have h := h I20 eI20
  refine j_aload_n G 1 1 dX2_copyFrom_93 rfl rfl ?_
  have kk21 : kG K (a1 + 4) = (20, 8) := wk_4_4 hW k1
  refine j_get G hW 3 7 7 (.ref (a1 + 4)) k1 (by decide) rfl (by decide) rfl lay_X2 fl_X2_24 rfl rfl dX2_copyFrom_94 ?_
  refine j_iconst G (0 : Int32) dX2_copyFrom_97 (by decide) ?_
  refine j_aload_n G 0 0 dX2_copyFrom_98 rfl rfl ?_
  have kk22 : kG K (a0 + 4) = (20, 8) := wk_4_4 hW k0
  refine j_get G hW 3 7 7 (.ref (a0 + 4)) k0 (by decide) rfl (by decide) rfl lay_X2 fl_X2_24 rfl rfl dX2_copyFrom_99 ?_
  refine j_iconst G (0 : Int32) dX2_copyFrom_102 (by decide) ?_
  refine j_bipush G (8 : Int32) dX2_copyFrom_103 (by decide) ?_
  refine j_copyi G hW 8 kk21 kk22 (by decide) (by decide) (by decide) (by decide) ml_X2_69 nat_copy st_copy in_J10 (by decide) (by decide) (Nat.le_of_ble_eq_true rfl) dX2_copyFrom_105 ?_
  refine j_mI (fun I23 eI23 => ?_)
  have h := h I23 eI23
  refine j_aload_n G 1 1 dX2_copyFrom_108 rfl rfl ?_
  have kk24 : kG K (a1 + 5) = (20, 100) := wk_4_5 hW k1
  refine j_get G hW 3 8 8 (.ref (a1 + 5)) k1 (by decide) rfl (by decide) rfl lay_X2 fl_X2_27 rfl rfl dX2_copyFrom_109 ?_
  refine j_iconst G (0 : Int32) dX2_copyFrom_112 (by decide) ?_
  refine j_aload_n G 0 0 dX2_copyFrom_113 rfl rfl ?_
  have kk25 : kG K (a0 + 5) = (20, 100) := wk_4_5 hW k0
  refine j_get G hW 3 8 8 (.ref (a0 + 5)) k0 (by decide) rfl (by decide) rfl lay_X2 fl_X2_27 rfl rfl dX2_copyFrom_114 ?_
  refine j_iconst G (0 : Int32) dX2_copyFrom_117 (by decide) ?_
  refine j_aload_n G 0 0 dX2_copyFrom_118 rfl rfl ?_
  refine j_get G hW 3 8 8 (.ref (a0 + 5)) k0 (by decide) rfl (by decide) rfl lay_X2 fl_X2_27 rfl rfl dX2_copyFrom_119 ?_
  refine j_alen G hW (100 : Int32) kk25 (by decide) (by decide) (by decide) rfl (by decide) dX2_copyFrom_122 ?_
  refine j_copyi G hW 100 kk24 kk25 (by decide) (by decide) (by decide) (by decide) ml_X2_69 nat_copy st_copy in_J10 (by decide) (by decide) (Nat.le_of_ble_eq_true rfl) dX2_copyFrom_123 ?_
  refine j_mI (fun I26 eI26 => ?_)
  have h := h I26 eI26
  refine j_aload_n G 1 1 dX2_copyFrom_126 rfl rfl ?_
  have kk27 : kG K (a1 + 6) = (20, 50) := wk_4_6 hW k1
  refine j_get G hW 3 9 9 (.ref (a1 + 6)) k1 (by decide) rfl (by decide) rfl lay_X2 fl_X2_30 rfl rfl dX2_copyFrom_127 ?_
  refine j_iconst G (0 : Int32) dX2_copyFrom_130 (by decide) ?_
  refine j_aload_n G 0 0 dX2_copyFrom_131 rfl rfl ?_
  have kk28 : kG K (a0 + 6) = (20, 50) := wk_4_6 hW k0
  refine j_get G hW 3 9 9 (.ref (a0 + 6)) k0 (by decide) rfl (by decide) rfl lay_X2 fl_X2_30 rfl rfl dX2_copyFrom_132 ?_
  refine j_iconst G (0 : Int32) dX2_copyFrom_135 (by decide) ?_
  refine j_aload_n G 0 0 dX2_copyFrom_136 rfl rfl ?_
  refine j_get G hW 3 9 9 (.ref (a0 + 6)) k0 (by decide) rfl (by decide) rfl lay_X2 fl_X2_30 rfl rfl dX2_copyFrom_137 ?_
  refine j_alen G hW (50 : Int32) kk28 (by decide) (by decide) (by decide) rfl (by decide) dX2_copyFrom_140 ?_
  refine j_copyi G hW 50 kk27 kk28 (by decide) (by decide) (by decide) (by decide) ml_X2_69 nat_copy st_copy in_J10 (by decide) (by decide) (Nat.le_of_ble_eq_true rfl) dX2_copyFrom_141 ?_
  refine j_mI (fun I29 eI29 => ?_)
  have h := h I29 eI29
  refine j_aload_n G 1 1 dX2_copyFrom_144 rfl rfl ?_
  have kk30 : kG K (a1 + 7) = (20, 50) := wk_4_7 hW k1
  refine j_get G hW 3 10 10 (.ref (a1 + 7)) k1 (by decide) rfl (by decide) rfl lay_X2 fl_X2_33 rfl rfl dX2_copyFrom_145 ?_
  refine j_iconst G (0 : Int32) dX2_copyFrom_148 (by decide) ?_
  refine j_aload_n G 0 0 dX2_copyFrom_149 rfl rfl ?_
  have kk31 : kG K (a0 + 7) = (20, 50) := wk_4_7 hW k0
  refine j_get G hW 3 10 10 (.ref (a0 + 7)) k0 (by decide) rfl (by decide) rfl lay_X2 fl_X2_33 rfl rfl dX2_copyFrom_150 ?_
  refine j_iconst G (0 : Int32) dX2_copyFrom_153 (by decide) ?_
  refine j_aload_n G 0 0 dX2_copyFrom_154 rfl rfl ?_
  refine j_get G hW 3 10 10 (.ref (a0 + 7)) k0 (by decide) rfl (by decide) rfl lay_X2 fl_X2_33 rfl rfl dX2_copyFrom_155 ?_
  refine j_alen G hW (50 : Int32) kk31 (by decide) (by decide) (by decide) rfl (by decide) dX2_copyFrom_158 ?_
  refine j_copyi G hW 50 kk30 kk31 (by decide) (by decide) (by decide) (by decide) ml_X2_69 nat_copy st_copy in_J10 (by decide) (by decide) (Nat.le_of_ble_eq_true rfl) dX2_copyFrom_159 ?_
  refine j_mI (fun I32 eI32 => ?_)
  have h := h I32 eI32
  exact j_retv G I32 dX2_copyFrom_162 h rfl
abbrev rm_X2_widenAims : Room := { frames := 1, cells := 0, slots := 0, locals := 21 }
def w_X2_widenAims_l2 (a0 : Nat)   (Q : MI → Prop) (rec : Int32 → MI → Prop) (x1 : Int32) (I : MI) : Prop :=
(((I a0 1) ≤ x1 → Q I) ∧
(¬ (I a0 1) ≤ x1 → (vp_in x1 25 ∧
(((I (a0 + 9 + ix x1) 0) = (4 : Int32) → (w_X9_bit (I (a0 + 9 + ix x1) 2) (fun r6 =>
(∀ I7, I7 = ui I a0 4 ((I a0 4) ||| r6) →
rec (x1 + 1) I7)))) ∧
(¬ (I (a0 + 9 + ix x1) 0) = (4 : Int32) → ((¬ (I (a0 + 9 + ix x1) 0) = (5 : Int32) → (w_X9_isReckoning (I (a0 + 9 + ix x1) 0) (fun r9 =>
((r9 = 0 → rec (x1 + 1) I) ∧
(¬ r9 = 0 → (w_X9_isIn (I a0 4) (I (a0 + 9 + ix x1) 1) (fun r11 =>
((r11 = 0 → rec (x1 + 1) I) ∧
(¬ r11 = 0 → (w_X9_bit (I (a0 + 9 + ix x1) 2) (fun r13 =>
(w_X9_bit (I (a0 + 9 + ix x1) 3) (fun r14 =>
(∀ I15, I15 = ui I a0 4 ((I a0 4) ||| (r13 ||| r14)) →
rec (x1 + 1) I15)))))))))))))) ∧
((I (a0 + 9 + ix x1) 0) = (5 : Int32) → (w_X9_bit (I (a0 + 9 + ix x1) 2) (fun r16 =>
(∀ I17, I17 = ui I a0 4 ((I a0 4) ||| r16) →
rec (x1 + 1) I17))))))))))
set_option maxHeartbeats 4000000 in
set_option maxRecDepth 100000 in
theorem m_X2_widenAims_l2 {K : Kx} {l : Launch} {m : MethodId} {H0 : Heap} {Q : MI → Prop} {w : HW} {J : MJ} {B : MR} (G : Gd l rm_X2_widenAims K m RX2 cX2_widenAims 3 H0 none (va_Qv (S := MI) Q (fun u t => HP K (u, J, B) t.heap) (AA K)) w) (hW : WFK K) (a0 : Nat) (x1 : Int32) (ka0 : (kG K a0).1 = 4) (I : MI)   (h : Lp2 (w_X2_widenAims_l2 a0 Q) x1 I) : Jg K m 3 H0 w 2 [(0, .ref a0), (1, .int x1)] [] (I, J, B) := by
  obtain ⟨n, h⟩ := h
  refine lpN2_ind (P := (fun (x1 : Int32) (I : MI) => Jg K m 3 H0 w 2 [(0, .ref a0), (1, .int x1)] [] (I, J, B))) (fun rec hrec x1 I h => ?_) n x1 I h
  unfold w_X2_widenAims_l2 at h
  refine j_iload_n G 1 1 dX2_widenAims_2 rfl rfl ?_
  refine j_aload_n G 0 0 dX2_widenAims_3 rfl rfl ?_
  refine j_get G hW 3 1 0 (.int (I a0 1)) ka0 (by decide) rfl (by decide) rfl lay_X2 fl_X2_43 rfl rfl dX2_widenAims_4 ?_
  refine j_icmp_ge G 106 dX2_widenAims_7 (by decide) (fun c1 => ?_) (fun c1 => ?_)
  · have h := h.1 c1
    exact j_retv G I dX2_widenAims_106 h rfl
  · have h := h.2 c1
    refine j_aload_n G 0 0 dX2_widenAims_10 rfl rfl ?_
    have kk2 : kG K (a0 + 1) = (24, 25) := wk_4_1 hW ka0
    refine j_get G hW 3 0 4 (.ref (a0 + 1)) ka0 (by decide) rfl (by decide) rfl lay_X2 fl_X2_11 rfl rfl dX2_widenAims_11 ?_
    refine j_iload_n G 1 1 dX2_widenAims_14 rfl rfl ?_
    obtain ⟨b3, h⟩ := h
    have kk4 : (kG K (a0 + 9 + ix x1)).1 = 2 := wk_a24 (i := x1) hW kk2 b3 (ad3 rfl)
    refine j_aald24 G hW (i := x1) (b := a0 + 9 + ix x1) kk2 b3 (ad3 rfl) dX2_widenAims_15 ?_
    refine j_astore_n G 2 [(2, .ref (a0 + 9 + ix x1)), (0, .ref a0), (1, .int x1)] dX2_widenAims_16 rfl (by decide) rfl ?_
    refine j_aload_n G 0 2 dX2_widenAims_17 rfl rfl ?_
    refine j_get G hW 1 0 0 (.int (I (a0 + 9 + ix x1) 0)) kk4 (by decide) rfl (by decide) rfl lay_X0 fl_X2_59 rfl rfl dX2_widenAims_18 ?_
    refine j_iconst G (4 : Int32) dX2_widenAims_21 (by decide) ?_
    refine j_icmp_eq G 33 dX2_widenAims_22 (by decide) (fun c5 => ?_) (fun c5 => ?_)
    · have h := h.1 c5
      refine j_aload_n G 1 0 dX2_widenAims_33 rfl rfl ?_
      refine j_dup G rfl dX2_widenAims_34 ?_
      refine j_get G hW 3 4 0 (.int (I a0 4)) ka0 (by decide) rfl (by decide) rfl lay_X2 fl_X2_66 rfl rfl dX2_widenAims_35 ?_
      refine j_aload_n G 0 2 dX2_widenAims_38 rfl rfl ?_
      refine j_get G hW 1 2 0 (.int (I (a0 + 9 + ix x1) 2)) kk4 (by decide) rfl (by decide) rfl lay_X0 fl_X2_82 rfl rfl dX2_widenAims_39 ?_
      refine j_ci (rn_N G (n := 1) (As := [.int (I (a0 + 9 + ix x1) 2)]) (rest := [.int (I a0 4), .ref a0]) (c_X9_bit K hW l (I (a0 + 9 + ix x1) 2) I J B _ h) (List.mem_of_getElem? (i := 0) rfl) st_X9_bit in_X9 co_X9_bit (by decide +kernel) rfl rfl (by decide) (by decide) rfl rfl (Nat.le_of_ble_eq_true rfl) dX2_widenAims_42) (fun r6 _ h => ?_)
      refine j_ior G dX2_widenAims_45 ?_
      refine j_put G hW 3 4 tyX2 (tyX2 4) tyX2_ok nmX2 ka0 (by decide) rfl (by decide) rfl lay_X2 fl_X2_66 rfl rfl (tyX2_ok 4 (by decide)) rfl rfl dX2_widenAims_46 ?_
      refine j_mI (fun I7 eI7 => ?_)
      have h := h I7 eI7
      refine j_goto G 100 dX2_widenAims_49 (by decide) ?_
      refine j_iinc G 2 (x1 + 1) [(1, .int (x1 + 1)), (2, .ref (a0 + 9 + ix x1)), (0, .ref a0)] dX2_widenAims_100 rfl rfl (by decide) rfl ?_
      refine j_goto G 2 dX2_widenAims_103 (by decide) ?_
      exact Jg.sub [2, 0] rfl (hrec (x1 + 1) I7 h)
    · have h := h.2 c5
      refine j_aload_n G 0 2 dX2_widenAims_25 rfl rfl ?_
      refine j_get G hW 1 0 0 (.int (I (a0 + 9 + ix x1) 0)) kk4 (by decide) rfl (by decide) rfl lay_X0 fl_X2_59 rfl rfl dX2_widenAims_26 ?_
      refine j_iconst G (5 : Int32) dX2_widenAims_29 (by decide) ?_
      refine j_icmp_ne G 52 dX2_widenAims_30 (by decide) (fun c8 => ?_) (fun c8 => ?_)
      · have h := h.1 c8
        refine j_aload_n G 0 2 dX2_widenAims_52 rfl rfl ?_
        refine j_get G hW 1 0 0 (.int (I (a0 + 9 + ix x1) 0)) kk4 (by decide) rfl (by decide) rfl lay_X0 fl_X2_59 rfl rfl dX2_widenAims_53 ?_
        refine j_ci (rn_N G (n := 1) (As := [.int (I (a0 + 9 + ix x1) 0)]) (rest := []) (c_X9_isReckoning K hW l (I (a0 + 9 + ix x1) 0) I J B _ h) (List.mem_of_getElem? (i := 1) rfl) st_X9_isReckoning in_X9 co_X9_isReckoning (by decide +kernel) rfl rfl (by decide) (by decide) rfl rfl (Nat.le_of_ble_eq_true rfl) dX2_widenAims_56) (fun r9 _ h => ?_)
        refine j_if_eq G 100 dX2_widenAims_59 (by decide) (fun c10 => ?_) (fun c10 => ?_)
        · have h := h.1 c10
          refine j_iinc G 2 (x1 + 1) [(1, .int (x1 + 1)), (2, .ref (a0 + 9 + ix x1)), (0, .ref a0)] dX2_widenAims_100 rfl rfl (by decide) rfl ?_
          refine j_goto G 2 dX2_widenAims_103 (by decide) ?_
          exact Jg.sub [2, 0] rfl (hrec (x1 + 1) I h)
        · have h := h.2 c10
          refine j_aload_n G 1 0 dX2_widenAims_62 rfl rfl ?_
          refine j_get G hW 3 4 0 (.int (I a0 4)) ka0 (by decide) rfl (by decide) rfl lay_X2 fl_X2_66 rfl rfl dX2_widenAims_63 ?_
          refine j_aload_n G 0 2 dX2_widenAims_66 rfl rfl ?_
          refine j_get G hW 1 1 0 (.int (I (a0 + 9 + ix x1) 1)) kk4 (by decide) rfl (by decide) rfl lay_X0 fl_X2_93 rfl rfl dX2_widenAims_67 ?_
          refine j_ci (rn_N G (n := 2) (As := [.int (I a0 4), .int (I (a0 + 9 + ix x1) 1)]) (rest := []) (c_X9_isIn K hW l (I a0 4) (I (a0 + 9 + ix x1) 1) I J B _ h) (List.mem_of_getElem? (i := 2) rfl) st_X9_isIn in_X9 co_X9_isIn (by decide +kernel) rfl rfl (by decide) (by decide) rfl rfl (Nat.le_of_ble_eq_true rfl) dX2_widenAims_70) (fun r11 _ h => ?_)
          refine j_if_eq G 100 dX2_widenAims_73 (by decide) (fun c12 => ?_) (fun c12 => ?_)
          · have h := h.1 c12
            refine j_iinc G 2 (x1 + 1) [(1, .int (x1 + 1)), (2, .ref (a0 + 9 + ix x1)), (0, .ref a0)] dX2_widenAims_100 rfl rfl (by decide) rfl ?_
            refine j_goto G 2 dX2_widenAims_103 (by decide) ?_
            exact Jg.sub [2, 0] rfl (hrec (x1 + 1) I h)
          · have h := h.2 c12
            refine j_aload_n G 1 0 dX2_widenAims_76 rfl rfl ?_
            refine j_dup G rfl dX2_widenAims_77 ?_
            refine j_get G hW 3 4 0 (.int (I a0 4)) ka0 (by decide) rfl (by decide) rfl lay_X2 fl_X2_66 rfl rfl dX2_widenAims_78 ?_
            refine j_aload_n G 0 2 dX2_widenAims_81 rfl rfl ?_
            refine j_get G hW 1 2 0 (.int (I (a0 + 9 + ix x1) 2)) kk4 (by decide) rfl (by decide) rfl lay_X0 fl_X2_82 rfl rfl dX2_widenAims_82 ?_
            refine j_ci (rn_N G (n := 1) (As := [.int (I (a0 + 9 + ix x1) 2)]) (rest := [.int (I a0 4), .ref a0]) (c_X9_bit K hW l (I (a0 + 9 + ix x1) 2) I J B _ h) (List.mem_of_getElem? (i := 0) rfl) st_X9_bit in_X9 co_X9_bit (by decide +kernel) rfl rfl (by decide) (by decide) rfl rfl (Nat.le_of_ble_eq_true rfl) dX2_widenAims_85) (fun r13 _ h => ?_)
            refine j_aload_n G 0 2 dX2_widenAims_88 rfl rfl ?_
            refine j_get G hW 1 3 0 (.int (I (a0 + 9 + ix x1) 3)) kk4 (by decide) rfl (by decide) rfl lay_X0 fl_X2_100 rfl rfl dX2_widenAims_89 ?_
            refine j_ci (rn_N G (n := 1) (As := [.int (I (a0 + 9 + ix x1) 3)]) (rest := [.int r13, .int (I a0 4), .ref a0]) (c_X9_bit K hW l (I (a0 + 9 + ix x1) 3) I J B _ h) (List.mem_of_getElem? (i := 0) rfl) st_X9_bit in_X9 co_X9_bit (by decide +kernel) rfl rfl (by decide) (by decide) rfl rfl (Nat.le_of_ble_eq_true rfl) dX2_widenAims_92) (fun r14 _ h => ?_)
            refine j_ior G dX2_widenAims_95 ?_
            refine j_ior G dX2_widenAims_96 ?_
            refine j_put G hW 3 4 tyX2 (tyX2 4) tyX2_ok nmX2 ka0 (by decide) rfl (by decide) rfl lay_X2 fl_X2_66 rfl rfl (tyX2_ok 4 (by decide)) rfl rfl dX2_widenAims_97 ?_
            refine j_mI (fun I15 eI15 => ?_)
            have h := h I15 eI15
            refine j_iinc G 2 (x1 + 1) [(1, .int (x1 + 1)), (2, .ref (a0 + 9 + ix x1)), (0, .ref a0)] dX2_widenAims_100 rfl rfl (by decide) rfl ?_
            refine j_goto G 2 dX2_widenAims_103 (by decide) ?_
            exact Jg.sub [2, 0] rfl (hrec (x1 + 1) I15 h)
      · have h := h.2 c8
        refine j_aload_n G 1 0 dX2_widenAims_33 rfl rfl ?_
        refine j_dup G rfl dX2_widenAims_34 ?_
        refine j_get G hW 3 4 0 (.int (I a0 4)) ka0 (by decide) rfl (by decide) rfl lay_X2 fl_X2_66 rfl rfl dX2_widenAims_35 ?_
        refine j_aload_n G 0 2 dX2_widenAims_38 rfl rfl ?_
        refine j_get G hW 1 2 0 (.int (I (a0 + 9 + ix x1) 2)) kk4 (by decide) rfl (by decide) rfl lay_X0 fl_X2_82 rfl rfl dX2_widenAims_39 ?_
        refine j_ci (rn_N G (n := 1) (As := [.int (I (a0 + 9 + ix x1) 2)]) (rest := [.int (I a0 4), .ref a0]) (c_X9_bit K hW l (I (a0 + 9 + ix x1) 2) I J B _ h) (List.mem_of_getElem? (i := 0) rfl) st_X9_bit in_X9 co_X9_bit (by decide +kernel) rfl rfl (by decide) (by decide) rfl rfl (Nat.le_of_ble_eq_true rfl) dX2_widenAims_42) (fun r16 _ h => ?_)
        refine j_ior G dX2_widenAims_45 ?_
        refine j_put G hW 3 4 tyX2 (tyX2 4) tyX2_ok nmX2 ka0 (by decide) rfl (by decide) rfl lay_X2 fl_X2_66 rfl rfl (tyX2_ok 4 (by decide)) rfl rfl dX2_widenAims_46 ?_
        refine j_mI (fun I17 eI17 => ?_)
        have h := h I17 eI17
        refine j_goto G 100 dX2_widenAims_49 (by decide) ?_
        refine j_iinc G 2 (x1 + 1) [(1, .int (x1 + 1)), (2, .ref (a0 + 9 + ix x1)), (0, .ref a0)] dX2_widenAims_100 rfl rfl (by decide) rfl ?_
        refine j_goto G 2 dX2_widenAims_103 (by decide) ?_
        exact Jg.sub [2, 0] rfl (hrec (x1 + 1) I17 h)
def w_X2_widenAims (a0 : Nat) (I : MI) (Q : MI → Prop) : Prop :=
Lp2 (w_X2_widenAims_l2 a0 Q) (0 : Int32) I
set_option maxHeartbeats 4000000 in
set_option maxRecDepth 100000 in
theorem c_X2_widenAims (K : Kx) (hW : WFK K) (l : Launch) (a0 : Nat) (k0 : (kG K a0).1 = 4) (I : MI) (J : MJ) (B : MR) (Q : MI → Prop) (h : w_X2_widenAims a0 I Q) : Con K l yX2_widenAims (wsT yX2_widenAims cX2_widenAims 3 none) rm_X2_widenAims [.ref a0] (I, J, B) (va_Qv (S := MI) Q (fun u t => HP K (u, J, B) t.heap) (AA K)) := by
  refine Con.ofJ RX2 rfl (by decide) (Nat.le_of_ble_eq_true rfl) (fun m H0 w G => ?_)
  unfold w_X2_widenAims at h
  show Jg K m 3 H0 w 0 [(0, .ref a0)] [] (I, J, B)
  refine j_iconst G (0 : Int32) dX2_widenAims_0 (by decide) ?_
  refine j_istore_n G 1 [(1, .int (0 : Int32)), (0, .ref a0)] dX2_widenAims_1 rfl (by decide) rfl ?_
  refine Jg.sub [1, 0] rfl (m_X2_widenAims_l2 G hW a0 (0 : Int32) k0 I h)
abbrev rm_X2_addDeed : Room := { frames := 1, cells := 0, slots := 0, locals := 22 }
def w_X2_addDeed (a0 : Nat) (x1 : Int32) (x2 : Int32) (x3 : Int32) (I : MI) (Q : MI → Prop) : Prop :=
(vp_in ((x1 * (25 : Int32)) + x2) 50 ∧
(∀ x4_3, x4_3 = I (a0 + 7) (ix ((x1 * (25 : Int32)) + x2)) →
(((2 : Int32) ≤ x4_3 → Q I) ∧
(¬ (2 : Int32) ≤ x4_3 → (w_X9_deedPlace x1 x2 x4_3 (fun r6 =>
(vp_in r6 100 ∧
(∀ I8, I8 = ui I (a0 + 5) (ix r6) x3 →
(vp_in ((x1 * (25 : Int32)) + x2) 50 ∧
(∀ I10, I10 = ui I8 (a0 + 7) (ix ((x1 * (25 : Int32)) + x2)) (x4_3 + (1 : Int32)) →
Q I10))))))))))
set_option maxHeartbeats 4000000 in
set_option maxRecDepth 100000 in
theorem c_X2_addDeed (K : Kx) (hW : WFK K) (l : Launch) (a0 : Nat) (x1 : Int32) (x2 : Int32) (x3 : Int32) (k0 : (kG K a0).1 = 4) (I : MI) (J : MJ) (B : MR) (Q : MI → Prop) (h : w_X2_addDeed a0 x1 x2 x3 I Q) : Con K l yX2_addDeed (wsT yX2_addDeed cX2_addDeed 5 none) rm_X2_addDeed [.ref a0, .int x1, .int x2, .int x3] (I, J, B) (va_Qv (S := MI) Q (fun u t => HP K (u, J, B) t.heap) (AA K)) := by
  refine Con.ofJ RX2 rfl (by decide) (Nat.le_of_ble_eq_true rfl) (fun m H0 w G => ?_)
  unfold w_X2_addDeed at h
  show Jg K m 5 H0 w 0 [(0, .ref a0), (1, .int x1), (2, .int x2), (3, .int x3)] [] (I, J, B)
  refine j_aload_n G 0 0 dX2_addDeed_0 rfl rfl ?_
  have kk1 : kG K (a0 + 7) = (20, 50) := wk_4_7 hW k0
  refine j_get G hW 3 10 10 (.ref (a0 + 7)) k0 (by decide) rfl (by decide) rfl lay_X2 fl_X2_33 rfl rfl dX2_addDeed_1 ?_
  refine j_iload_n G 1 1 dX2_addDeed_4 rfl rfl ?_
  refine j_bipush G (25 : Int32) dX2_addDeed_5 (by decide) ?_
  refine j_imul G dX2_addDeed_7 ?_
  refine j_iload_n G 2 2 dX2_addDeed_8 rfl rfl ?_
  refine j_iadd G dX2_addDeed_9 ?_
  obtain ⟨b2, h⟩ := h
  refine j_iald G hW kk1 b2 dX2_addDeed_10 ?_
  refine j_nm (fun x4_3 ex4_3 => ?_)
  have h := h x4_3 ex4_3
  refine j_istore G [(4, .int x4_3), (0, .ref a0), (1, .int x1), (2, .int x2), (3, .int x3)] dX2_addDeed_11 (by decide) rfl ?_
  refine j_iload G 0 dX2_addDeed_13 rfl ?_
  refine j_iconst G (2 : Int32) dX2_addDeed_15 (by decide) ?_
  refine j_icmp_ge G 47 dX2_addDeed_16 (by decide) (fun c4 => ?_) (fun c4 => ?_)
  · have h := h.1 c4
    exact j_retv G I dX2_addDeed_47 h rfl
  · have h := h.2 c4
    refine j_aload_n G 1 0 dX2_addDeed_19 rfl rfl ?_
    have kk5 : kG K (a0 + 5) = (20, 100) := wk_4_5 hW k0
    refine j_get G hW 3 8 8 (.ref (a0 + 5)) k0 (by decide) rfl (by decide) rfl lay_X2 fl_X2_27 rfl rfl dX2_addDeed_20 ?_
    refine j_iload_n G 2 1 dX2_addDeed_23 rfl rfl ?_
    refine j_iload_n G 3 2 dX2_addDeed_24 rfl rfl ?_
    refine j_iload G 0 dX2_addDeed_25 rfl ?_
    refine j_ci (rn_N G (n := 3) (As := [.int x1, .int x2, .int x4_3]) (rest := [.ref (a0 + 5)]) (c_X9_deedPlace K hW l x1 x2 x4_3 I J B _ h) (List.mem_of_getElem? (i := 3) rfl) st_X9_deedPlace in_X9 co_X9_deedPlace (by decide +kernel) rfl rfl (by decide) (by decide) rfl rfl (Nat.le_of_ble_eq_true rfl) dX2_addDeed_27) (fun r6 _ h => ?_)
    refine j_iload_n G 4 3 dX2_addDeed_30 rfl rfl ?_
    obtain ⟨b7, h⟩ := h
    refine j_iast G hW kk5 b7 dX2_addDeed_31 ?_
    refine j_mI (fun I8 eI8 => ?_)
    have h := h I8 eI8
    refine j_aload_n G 1 0 dX2_addDeed_32 rfl rfl ?_
    refine j_get G hW 3 10 10 (.ref (a0 + 7)) k0 (by decide) rfl (by decide) rfl lay_X2 fl_X2_33 rfl rfl dX2_addDeed_33 ?_
    refine j_iload_n G 2 1 dX2_addDeed_36 rfl rfl ?_
    refine j_bipush G (25 : Int32) dX2_addDeed_37 (by decide) ?_
    refine j_imul G dX2_addDeed_39 ?_
    refine j_iload_n G 3 2 dX2_addDeed_40 rfl rfl ?_
    refine j_iadd G dX2_addDeed_41 ?_
    refine j_iload G 0 dX2_addDeed_42 rfl ?_
    refine j_iconst G (1 : Int32) dX2_addDeed_44 (by decide) ?_
    refine j_iadd G dX2_addDeed_45 ?_
    obtain ⟨b9, h⟩ := h
    refine j_iast G hW kk1 b9 dX2_addDeed_46 ?_
    refine j_mI (fun I10 eI10 => ?_)
    have h := h I10 eI10
    exact j_retv G I10 dX2_addDeed_47 h rfl
abbrev rm_X2_addSend : Room := { frames := 2, cells := 0, slots := 0, locals := 46 }
def w_X2_addSend (a0 : Nat) (x1 : Int32) (x2 : Int32) (I : MI) (Q : MI → Prop) : Prop :=
(vp_in ((0 : Int32) + x1) 50 ∧
(∀ x3_3, x3_3 = I (a0 + 7) (ix ((0 : Int32) + x1)) →
(w_X9_isIn (I a0 4) x2 (fun r4 =>
((r4 = 0 → Q I) ∧
(¬ r4 = 0 → (((2 : Int32) ≤ x3_3 → Q I) ∧
(¬ (2 : Int32) ≤ x3_3 → (vp_in ((x1 * (2 : Int32)) + x3_3) 50 ∧
(∀ I9, I9 = ui I (a0 + 6) (ix ((x1 * (2 : Int32)) + x3_3)) x2 →
(w_X2_addDeed a0 (0 : Int32) x1 (9 : Int32) I9 (fun I10 =>
Q I10))))))))))))
set_option maxHeartbeats 4000000 in
set_option maxRecDepth 100000 in
theorem c_X2_addSend (K : Kx) (hW : WFK K) (l : Launch) (a0 : Nat) (x1 : Int32) (x2 : Int32) (k0 : (kG K a0).1 = 4) (I : MI) (J : MJ) (B : MR) (Q : MI → Prop) (h : w_X2_addSend a0 x1 x2 I Q) : Con K l yX2_addSend (wsT yX2_addSend cX2_addSend 4 none) rm_X2_addSend [.ref a0, .int x1, .int x2] (I, J, B) (va_Qv (S := MI) Q (fun u t => HP K (u, J, B) t.heap) (AA K)) := by
  refine Con.ofJ RX2 rfl (by decide) (Nat.le_of_ble_eq_true rfl) (fun m H0 w G => ?_)
  unfold w_X2_addSend at h
  show Jg K m 4 H0 w 0 [(0, .ref a0), (1, .int x1), (2, .int x2)] [] (I, J, B)
  refine j_aload_n G 0 0 dX2_addSend_0 rfl rfl ?_
  have kk1 : kG K (a0 + 7) = (20, 50) := wk_4_7 hW k0
  refine j_get G hW 3 10 10 (.ref (a0 + 7)) k0 (by decide) rfl (by decide) rfl lay_X2 fl_X2_33 rfl rfl dX2_addSend_1 ?_
  refine j_iconst G (0 : Int32) dX2_addSend_4 (by decide) ?_
  refine j_iload_n G 1 1 dX2_addSend_5 rfl rfl ?_
  refine j_iadd G dX2_addSend_6 ?_
  obtain ⟨b2, h⟩ := h
  refine j_iald G hW kk1 b2 dX2_addSend_7 ?_
  refine j_nm (fun x3_3 ex3_3 => ?_)
  have h := h x3_3 ex3_3
  refine j_istore_n G 3 [(3, .int x3_3), (0, .ref a0), (1, .int x1), (2, .int x2)] dX2_addSend_8 rfl (by decide) rfl ?_
  refine j_aload_n G 1 0 dX2_addSend_9 rfl rfl ?_
  refine j_get G hW 3 4 0 (.int (I a0 4)) k0 (by decide) rfl (by decide) rfl lay_X2 fl_X2_66 rfl rfl dX2_addSend_10 ?_
  refine j_iload_n G 3 2 dX2_addSend_13 rfl rfl ?_
  refine j_ci (rn_N G (n := 2) (As := [.int (I a0 4), .int x2]) (rest := []) (c_X9_isIn K hW l (I a0 4) x2 I J B _ h) (List.mem_of_getElem? (i := 2) rfl) st_X9_isIn in_X9 co_X9_isIn (by decide +kernel) rfl rfl (by decide) (by decide) rfl rfl (Nat.le_of_ble_eq_true rfl) dX2_addSend_14) (fun r4 _ h => ?_)
  refine j_if_eq G 44 dX2_addSend_17 (by decide) (fun c5 => ?_) (fun c5 => ?_)
  · have h := h.1 c5
    exact j_retv G I dX2_addSend_44 h rfl
  · have h := h.2 c5
    refine j_iload_n G 0 3 dX2_addSend_20 rfl rfl ?_
    refine j_iconst G (2 : Int32) dX2_addSend_21 (by decide) ?_
    refine j_icmp_ge G 44 dX2_addSend_22 (by decide) (fun c6 => ?_) (fun c6 => ?_)
    · have h := h.1 c6
      exact j_retv G I dX2_addSend_44 h rfl
    · have h := h.2 c6
      refine j_aload_n G 1 0 dX2_addSend_25 rfl rfl ?_
      have kk7 : kG K (a0 + 6) = (20, 50) := wk_4_6 hW k0
      refine j_get G hW 3 9 9 (.ref (a0 + 6)) k0 (by decide) rfl (by decide) rfl lay_X2 fl_X2_30 rfl rfl dX2_addSend_26 ?_
      refine j_iload_n G 2 1 dX2_addSend_29 rfl rfl ?_
      refine j_iconst G (2 : Int32) dX2_addSend_30 (by decide) ?_
      refine j_imul G dX2_addSend_31 ?_
      refine j_iload_n G 0 3 dX2_addSend_32 rfl rfl ?_
      refine j_iadd G dX2_addSend_33 ?_
      refine j_iload_n G 3 2 dX2_addSend_34 rfl rfl ?_
      obtain ⟨b8, h⟩ := h
      refine j_iast G hW kk7 b8 dX2_addSend_35 ?_
      refine j_mI (fun I9 eI9 => ?_)
      have h := h I9 eI9
      refine j_aload_n G 1 0 dX2_addSend_36 rfl rfl ?_
      refine j_iconst G (0 : Int32) dX2_addSend_37 (by decide) ?_
      refine j_iload_n G 2 1 dX2_addSend_38 rfl rfl ?_
      refine j_bipush G (9 : Int32) dX2_addSend_39 (by decide) ?_
      refine j_cv (rn_V G hW (ci := 3) (n := 3) (As := [.int (0 : Int32), .int x1, .int (9 : Int32)]) (rest := []) (c_X2_addDeed K hW l a0 (0 : Int32) x1 (9 : Int32) k0 I9 J B _ h) k0 (by decide) rfl ml_X2_103 im_X2_addDeed se_X2_addDeed in_X2 co_X2_addDeed rfl (by decide +kernel) rfl rfl (by decide) (by decide) rfl rfl (Nat.le_of_ble_eq_true rfl) dX2_addSend_41) (fun I10 h => ?_)
      exact j_retv G I10 dX2_addSend_44 h rfl
abbrev rm_X2_splitReckoning : Room := { frames := 3, cells := 0, slots := 0, locals := 69 }
def w_X2_splitReckoning (a0 : Nat) (x1 : Int32) (a2 : Nat) (I : MI) (Q : MI → Prop) : Prop :=
(w_X9_isIn (I a0 4) (I a2 1) (fun r1 =>
((r1 = 0 → (w_X2_addSend a0 x1 (I a2 2) I (fun I3 =>
(w_X2_addSend a0 x1 (I3 a2 3) I3 (fun I4 =>
(w_X2_addDeed a0 (1 : Int32) x1 (I4 a2 0) I4 (fun I5 =>
Q I5))))))) ∧
(¬ r1 = 0 → (w_X2_addDeed a0 (0 : Int32) x1 (I a2 0) I (fun I6 =>
Q I6))))))
set_option maxHeartbeats 4000000 in
set_option maxRecDepth 100000 in
theorem c_X2_splitReckoning (K : Kx) (hW : WFK K) (l : Launch) (a0 : Nat) (x1 : Int32) (a2 : Nat) (k0 : (kG K a0).1 = 4) (k2 : (kG K a2).1 = 2) (I : MI) (J : MJ) (B : MR) (Q : MI → Prop) (h : w_X2_splitReckoning a0 x1 a2 I Q) : Con K l yX2_splitReckoning (wsT yX2_splitReckoning cX2_splitReckoning 3 none) rm_X2_splitReckoning [.ref a0, .int x1, .ref a2] (I, J, B) (va_Qv (S := MI) Q (fun u t => HP K (u, J, B) t.heap) (AA K)) := by
  refine Con.ofJ RX2 rfl (by decide) (Nat.le_of_ble_eq_true rfl) (fun m H0 w G => ?_)
  unfold w_X2_splitReckoning at h
  show Jg K m 3 H0 w 0 [(0, .ref a0), (1, .int x1), (2, .ref a2)] [] (I, J, B)
  refine j_aload_n G 0 0 dX2_splitReckoning_0 rfl rfl ?_
  refine j_get G hW 3 4 0 (.int (I a0 4)) k0 (by decide) rfl (by decide) rfl lay_X2 fl_X2_66 rfl rfl dX2_splitReckoning_1 ?_
  refine j_aload_n G 2 2 dX2_splitReckoning_4 rfl rfl ?_
  refine j_get G hW 1 1 0 (.int (I a2 1)) k2 (by decide) rfl (by decide) rfl lay_X0 fl_X2_93 rfl rfl dX2_splitReckoning_5 ?_
  refine j_ci (rn_N G (n := 2) (As := [.int (I a0 4), .int (I a2 1)]) (rest := []) (c_X9_isIn K hW l (I a0 4) (I a2 1) I J B _ h) (List.mem_of_getElem? (i := 2) rfl) st_X9_isIn in_X9 co_X9_isIn (by decide +kernel) rfl rfl (by decide) (by decide) rfl rfl (Nat.le_of_ble_eq_true rfl) dX2_splitReckoning_8) (fun r1 _ h => ?_)
  refine j_if_eq G 27 dX2_splitReckoning_11 (by decide) (fun c2 => ?_) (fun c2 => ?_)
  · have h := h.1 c2
    refine j_aload_n G 0 0 dX2_splitReckoning_27 rfl rfl ?_
    refine j_iload_n G 1 1 dX2_splitReckoning_28 rfl rfl ?_
    refine j_aload_n G 2 2 dX2_splitReckoning_29 rfl rfl ?_
    refine j_get G hW 1 2 0 (.int (I a2 2)) k2 (by decide) rfl (by decide) rfl lay_X0 fl_X2_82 rfl rfl dX2_splitReckoning_30 ?_
    refine j_cv (rn_V G hW (ci := 3) (n := 2) (As := [.int x1, .int (I a2 2)]) (rest := []) (c_X2_addSend K hW l a0 x1 (I a2 2) k0 I J B _ h) k0 (by decide) rfl ml_X2_117 im_X2_addSend se_X2_addSend in_X2 co_X2_addSend rfl (by decide +kernel) rfl rfl (by decide) (by decide) rfl rfl (Nat.le_of_ble_eq_true rfl) dX2_splitReckoning_33) (fun I3 h => ?_)
    refine j_aload_n G 0 0 dX2_splitReckoning_36 rfl rfl ?_
    refine j_iload_n G 1 1 dX2_splitReckoning_37 rfl rfl ?_
    refine j_aload_n G 2 2 dX2_splitReckoning_38 rfl rfl ?_
    refine j_get G hW 1 3 0 (.int (I3 a2 3)) k2 (by decide) rfl (by decide) rfl lay_X0 fl_X2_100 rfl rfl dX2_splitReckoning_39 ?_
    refine j_cv (rn_V G hW (ci := 3) (n := 2) (As := [.int x1, .int (I3 a2 3)]) (rest := []) (c_X2_addSend K hW l a0 x1 (I3 a2 3) k0 I3 J B _ h) k0 (by decide) rfl ml_X2_117 im_X2_addSend se_X2_addSend in_X2 co_X2_addSend rfl (by decide +kernel) rfl rfl (by decide) (by decide) rfl rfl (Nat.le_of_ble_eq_true rfl) dX2_splitReckoning_42) (fun I4 h => ?_)
    refine j_aload_n G 0 0 dX2_splitReckoning_45 rfl rfl ?_
    refine j_iconst G (1 : Int32) dX2_splitReckoning_46 (by decide) ?_
    refine j_iload_n G 1 1 dX2_splitReckoning_47 rfl rfl ?_
    refine j_aload_n G 2 2 dX2_splitReckoning_48 rfl rfl ?_
    refine j_get G hW 1 0 0 (.int (I4 a2 0)) k2 (by decide) rfl (by decide) rfl lay_X0 fl_X2_59 rfl rfl dX2_splitReckoning_49 ?_
    refine j_cv (rn_V G hW (ci := 3) (n := 3) (As := [.int (1 : Int32), .int x1, .int (I4 a2 0)]) (rest := []) (c_X2_addDeed K hW l a0 (1 : Int32) x1 (I4 a2 0) k0 I4 J B _ h) k0 (by decide) rfl ml_X2_103 im_X2_addDeed se_X2_addDeed in_X2 co_X2_addDeed rfl (by decide +kernel) rfl rfl (by decide) (by decide) rfl rfl (Nat.le_of_ble_eq_true rfl) dX2_splitReckoning_52) (fun I5 h => ?_)
    exact j_retv G I5 dX2_splitReckoning_55 h rfl
  · have h := h.2 c2
    refine j_aload_n G 0 0 dX2_splitReckoning_14 rfl rfl ?_
    refine j_iconst G (0 : Int32) dX2_splitReckoning_15 (by decide) ?_
    refine j_iload_n G 1 1 dX2_splitReckoning_16 rfl rfl ?_
    refine j_aload_n G 2 2 dX2_splitReckoning_17 rfl rfl ?_
    refine j_get G hW 1 0 0 (.int (I a2 0)) k2 (by decide) rfl (by decide) rfl lay_X0 fl_X2_59 rfl rfl dX2_splitReckoning_18 ?_
    refine j_cv (rn_V G hW (ci := 3) (n := 3) (As := [.int (0 : Int32), .int x1, .int (I a2 0)]) (rest := []) (c_X2_addDeed K hW l a0 (0 : Int32) x1 (I a2 0) k0 I J B _ h) k0 (by decide) rfl ml_X2_103 im_X2_addDeed se_X2_addDeed in_X2 co_X2_addDeed rfl (by decide +kernel) rfl rfl (by decide) (by decide) rfl rfl (Nat.le_of_ble_eq_true rfl) dX2_splitReckoning_21) (fun I6 h => ?_)
    refine j_goto G 55 dX2_splitReckoning_24 (by decide) ?_
    exact j_retv G I6 dX2_splitReckoning_55 h rfl
abbrev rm_X2_splitMemory : Room := { frames := 2, cells := 0, slots := 0, locals := 46 }
def w_X2_splitMemory (a0 : Nat) (x1 : Int32) (a2 : Nat) (x3 : Int32) (x4 : Int32) (x5 : Int32) (I : MI) (Q : MI → Prop) : Prop :=
(w_X9_isIn (I a0 4) (I a2 1) (fun r1 =>
((r1 = 0 → (w_X2_addDeed a0 (0 : Int32) x1 x4 I (fun I3 =>
(w_X2_addDeed a0 (1 : Int32) x1 x5 I3 (fun I4 =>
Q I4))))) ∧
(¬ r1 = 0 → (w_X2_addDeed a0 (0 : Int32) x1 x3 I (fun I5 =>
Q I5))))))
set_option maxHeartbeats 4000000 in
set_option maxRecDepth 100000 in
theorem c_X2_splitMemory (K : Kx) (hW : WFK K) (l : Launch) (a0 : Nat) (x1 : Int32) (a2 : Nat) (x3 : Int32) (x4 : Int32) (x5 : Int32) (k0 : (kG K a0).1 = 4) (k2 : (kG K a2).1 = 2) (I : MI) (J : MJ) (B : MR) (Q : MI → Prop) (h : w_X2_splitMemory a0 x1 a2 x3 x4 x5 I Q) : Con K l yX2_splitMemory (wsT yX2_splitMemory cX2_splitMemory 6 none) rm_X2_splitMemory [.ref a0, .int x1, .ref a2, .int x3, .int x4, .int x5] (I, J, B) (va_Qv (S := MI) Q (fun u t => HP K (u, J, B) t.heap) (AA K)) := by
  refine Con.ofJ RX2 rfl (by decide) (Nat.le_of_ble_eq_true rfl) (fun m H0 w G => ?_)
  unfold w_X2_splitMemory at h
  show Jg K m 6 H0 w 0 [(0, .ref a0), (1, .int x1), (2, .ref a2), (3, .int x3), (4, .int x4), (5, .int x5)] [] (I, J, B)
  refine j_aload_n G 0 0 dX2_splitMemory_0 rfl rfl ?_
  refine j_get G hW 3 4 0 (.int (I a0 4)) k0 (by decide) rfl (by decide) rfl lay_X2 fl_X2_66 rfl rfl dX2_splitMemory_1 ?_
  refine j_aload_n G 2 2 dX2_splitMemory_4 rfl rfl ?_
  refine j_get G hW 1 1 0 (.int (I a2 1)) k2 (by decide) rfl (by decide) rfl lay_X0 fl_X2_93 rfl rfl dX2_splitMemory_5 ?_
  refine j_ci (rn_N G (n := 2) (As := [.int (I a0 4), .int (I a2 1)]) (rest := []) (c_X9_isIn K hW l (I a0 4) (I a2 1) I J B _ h) (List.mem_of_getElem? (i := 2) rfl) st_X9_isIn in_X9 co_X9_isIn (by decide +kernel) rfl rfl (by decide) (by decide) rfl rfl (Nat.le_of_ble_eq_true rfl) dX2_splitMemory_8) (fun r1 _ h => ?_)
  refine j_if_eq G 24 dX2_splitMemory_11 (by decide) (fun c2 => ?_) (fun c2 => ?_)
  · have h := h.1 c2
    refine j_aload_n G 0 0 dX2_splitMemory_24 rfl rfl ?_
    refine j_iconst G (0 : Int32) dX2_splitMemory_25 (by decide) ?_
    refine j_iload_n G 1 1 dX2_splitMemory_26 rfl rfl ?_
    refine j_iload G 4 dX2_splitMemory_27 rfl ?_
    refine j_cv (rn_V G hW (ci := 3) (n := 3) (As := [.int (0 : Int32), .int x1, .int x4]) (rest := []) (c_X2_addDeed K hW l a0 (0 : Int32) x1 x4 k0 I J B _ h) k0 (by decide) rfl ml_X2_103 im_X2_addDeed se_X2_addDeed in_X2 co_X2_addDeed rfl (by decide +kernel) rfl rfl (by decide) (by decide) rfl rfl (Nat.le_of_ble_eq_true rfl) dX2_splitMemory_29) (fun I3 h => ?_)
    refine j_aload_n G 0 0 dX2_splitMemory_32 rfl rfl ?_
    refine j_iconst G (1 : Int32) dX2_splitMemory_33 (by decide) ?_
    refine j_iload_n G 1 1 dX2_splitMemory_34 rfl rfl ?_
    refine j_iload G 5 dX2_splitMemory_35 rfl ?_
    refine j_cv (rn_V G hW (ci := 3) (n := 3) (As := [.int (1 : Int32), .int x1, .int x5]) (rest := []) (c_X2_addDeed K hW l a0 (1 : Int32) x1 x5 k0 I3 J B _ h) k0 (by decide) rfl ml_X2_103 im_X2_addDeed se_X2_addDeed in_X2 co_X2_addDeed rfl (by decide +kernel) rfl rfl (by decide) (by decide) rfl rfl (Nat.le_of_ble_eq_true rfl) dX2_splitMemory_37) (fun I4 h => ?_)
    exact j_retv G I4 dX2_splitMemory_40 h rfl
  · have h := h.2 c2
    refine j_aload_n G 0 0 dX2_splitMemory_14 rfl rfl ?_
    refine j_iconst G (0 : Int32) dX2_splitMemory_15 (by decide) ?_
    refine j_iload_n G 1 1 dX2_splitMemory_16 rfl rfl ?_
    refine j_iload_n G 3 3 dX2_splitMemory_17 rfl rfl ?_
    refine j_cv (rn_V G hW (ci := 3) (n := 3) (As := [.int (0 : Int32), .int x1, .int x3]) (rest := []) (c_X2_addDeed K hW l a0 (0 : Int32) x1 x3 k0 I J B _ h) k0 (by decide) rfl ml_X2_103 im_X2_addDeed se_X2_addDeed in_X2 co_X2_addDeed rfl (by decide +kernel) rfl rfl (by decide) (by decide) rfl rfl (Nat.le_of_ble_eq_true rfl) dX2_splitMemory_18) (fun I5 h => ?_)
    refine j_goto G 40 dX2_splitMemory_21 (by decide) ?_
    exact j_retv G I5 dX2_splitMemory_40 h rfl
abbrev rm_X2_splitIf : Room := { frames := 3, cells := 0, slots := 0, locals := 69 }
def w_X2_splitIf_p47 (a0 : Nat) (x1 : Int32) (a2 : Nat)  (I : MI)  (Q : MI → Prop) : Prop :=
(w_X2_addSend a0 x1 (I a2 2) I (fun I3 =>
(w_X2_addSend a0 x1 (I3 a2 3) I3 (fun I4 =>
(w_X2_addDeed a0 (0 : Int32) x1 (18 : Int32) I4 (fun I5 =>
(w_X2_addDeed a0 (1 : Int32) x1 (19 : Int32) I5 (fun I6 =>
Q I6))))))))
set_option maxHeartbeats 4000000 in
set_option maxRecDepth 100000 in
theorem m_X2_splitIf_p47 {K : Kx} {l : Launch} {m : MethodId} {H0 : Heap} {Q : MI → Prop} {w : HW} {J : MJ} {B : MR} (G : Gd l rm_X2_splitIf K m RX2 cX2_splitIf 3 H0 none (va_Qv (S := MI) Q (fun u t => HP K (u, J, B) t.heap) (AA K)) w) (hW : WFK K) (a0 : Nat) (x1 : Int32) (a2 : Nat)  (ka0 : (kG K a0).1 = 4) (ka2 : (kG K a2).1 = 2)  (I : MI)   (h : w_X2_splitIf_p47 a0 x1 a2 I Q) : Jg K m 3 H0 w 47 [(0, .ref a0), (1, .int x1), (2, .ref a2)] [] (I, J, B) := by
  unfold w_X2_splitIf_p47 at h
  refine j_aload_n G 0 0 dX2_splitIf_47 rfl rfl ?_
  refine j_iload_n G 1 1 dX2_splitIf_48 rfl rfl ?_
  refine j_aload_n G 2 2 dX2_splitIf_49 rfl rfl ?_
  refine j_get G hW 1 2 0 (.int (I a2 2)) ka2 (by decide) rfl (by decide) rfl lay_X0 fl_X2_82 rfl rfl dX2_splitIf_50 ?_
  refine j_cv (rn_V G hW (ci := 3) (n := 2) (As := [.int x1, .int (I a2 2)]) (rest := []) (c_X2_addSend K hW l a0 x1 (I a2 2) ka0 I J B _ h) ka0 (by decide) rfl ml_X2_117 im_X2_addSend se_X2_addSend in_X2 co_X2_addSend rfl (by decide +kernel) rfl rfl (by decide) (by decide) rfl rfl (Nat.le_of_ble_eq_true rfl) dX2_splitIf_53) (fun I3 h => ?_)
  refine j_aload_n G 0 0 dX2_splitIf_56 rfl rfl ?_
  refine j_iload_n G 1 1 dX2_splitIf_57 rfl rfl ?_
  refine j_aload_n G 2 2 dX2_splitIf_58 rfl rfl ?_
  refine j_get G hW 1 3 0 (.int (I3 a2 3)) ka2 (by decide) rfl (by decide) rfl lay_X0 fl_X2_100 rfl rfl dX2_splitIf_59 ?_
  refine j_cv (rn_V G hW (ci := 3) (n := 2) (As := [.int x1, .int (I3 a2 3)]) (rest := []) (c_X2_addSend K hW l a0 x1 (I3 a2 3) ka0 I3 J B _ h) ka0 (by decide) rfl ml_X2_117 im_X2_addSend se_X2_addSend in_X2 co_X2_addSend rfl (by decide +kernel) rfl rfl (by decide) (by decide) rfl rfl (Nat.le_of_ble_eq_true rfl) dX2_splitIf_62) (fun I4 h => ?_)
  refine j_aload_n G 0 0 dX2_splitIf_65 rfl rfl ?_
  refine j_iconst G (0 : Int32) dX2_splitIf_66 (by decide) ?_
  refine j_iload_n G 1 1 dX2_splitIf_67 rfl rfl ?_
  refine j_bipush G (18 : Int32) dX2_splitIf_68 (by decide) ?_
  refine j_cv (rn_V G hW (ci := 3) (n := 3) (As := [.int (0 : Int32), .int x1, .int (18 : Int32)]) (rest := []) (c_X2_addDeed K hW l a0 (0 : Int32) x1 (18 : Int32) ka0 I4 J B _ h) ka0 (by decide) rfl ml_X2_103 im_X2_addDeed se_X2_addDeed in_X2 co_X2_addDeed rfl (by decide +kernel) rfl rfl (by decide) (by decide) rfl rfl (Nat.le_of_ble_eq_true rfl) dX2_splitIf_70) (fun I5 h => ?_)
  refine j_aload_n G 0 0 dX2_splitIf_73 rfl rfl ?_
  refine j_iconst G (1 : Int32) dX2_splitIf_74 (by decide) ?_
  refine j_iload_n G 1 1 dX2_splitIf_75 rfl rfl ?_
  refine j_bipush G (19 : Int32) dX2_splitIf_76 (by decide) ?_
  refine j_cv (rn_V G hW (ci := 3) (n := 3) (As := [.int (1 : Int32), .int x1, .int (19 : Int32)]) (rest := []) (c_X2_addDeed K hW l a0 (1 : Int32) x1 (19 : Int32) ka0 I5 J B _ h) ka0 (by decide) rfl ml_X2_103 im_X2_addDeed se_X2_addDeed in_X2 co_X2_addDeed rfl (by decide +kernel) rfl rfl (by decide) (by decide) rfl rfl (Nat.le_of_ble_eq_true rfl) dX2_splitIf_78) (fun I6 h => ?_)
  exact j_retv G I6 dX2_splitIf_81 h rfl
def w_X2_splitIf (a0 : Nat) (x1 : Int32) (a2 : Nat) (I : MI) (Q : MI → Prop) : Prop :=
(w_X9_isIn (I a0 4) (I a2 2) (fun r1 =>
((r1 = 0 → w_X2_splitIf_p47 a0 x1 a2 I Q) ∧
(¬ r1 = 0 → (w_X9_isIn (I a0 4) (I a2 3) (fun r7 =>
((r7 = 0 → w_X2_splitIf_p47 a0 x1 a2 I Q) ∧
(¬ r7 = 0 → (w_X2_addDeed a0 (0 : Int32) x1 (16 : Int32) I (fun I9 =>
(w_X2_addDeed a0 (1 : Int32) x1 (17 : Int32) I9 (fun I10 =>
Q I10))))))))))))
set_option maxHeartbeats 4000000 in
set_option maxRecDepth 100000 in
theorem c_X2_splitIf (K : Kx) (hW : WFK K) (l : Launch) (a0 : Nat) (x1 : Int32) (a2 : Nat) (k0 : (kG K a0).1 = 4) (k2 : (kG K a2).1 = 2) (I : MI) (J : MJ) (B : MR) (Q : MI → Prop) (h : w_X2_splitIf a0 x1 a2 I Q) : Con K l yX2_splitIf (wsT yX2_splitIf cX2_splitIf 3 none) rm_X2_splitIf [.ref a0, .int x1, .ref a2] (I, J, B) (va_Qv (S := MI) Q (fun u t => HP K (u, J, B) t.heap) (AA K)) := by
  refine Con.ofJ RX2 rfl (by decide) (Nat.le_of_ble_eq_true rfl) (fun m H0 w G => ?_)
  unfold w_X2_splitIf at h
  show Jg K m 3 H0 w 0 [(0, .ref a0), (1, .int x1), (2, .ref a2)] [] (I, J, B)
  refine j_aload_n G 0 0 dX2_splitIf_0 rfl rfl ?_
  refine j_get G hW 3 4 0 (.int (I a0 4)) k0 (by decide) rfl (by decide) rfl lay_X2 fl_X2_66 rfl rfl dX2_splitIf_1 ?_
  refine j_aload_n G 2 2 dX2_splitIf_4 rfl rfl ?_
  refine j_get G hW 1 2 0 (.int (I a2 2)) k2 (by decide) rfl (by decide) rfl lay_X0 fl_X2_82 rfl rfl dX2_splitIf_5 ?_
  refine j_ci (rn_N G (n := 2) (As := [.int (I a0 4), .int (I a2 2)]) (rest := []) (c_X9_isIn K hW l (I a0 4) (I a2 2) I J B _ h) (List.mem_of_getElem? (i := 2) rfl) st_X9_isIn in_X9 co_X9_isIn (by decide +kernel) rfl rfl (by decide) (by decide) rfl rfl (Nat.le_of_ble_eq_true rfl) dX2_splitIf_8) (fun r1 _ h => ?_)
  refine j_if_eq G 47 dX2_splitIf_11 (by decide) (fun c2 => ?_) (fun c2 => ?_)
  · have h := h.1 c2
    exact m_X2_splitIf_p47 G hW a0 x1 a2 k0 k2 I h
  · have h := h.2 c2
    refine j_aload_n G 0 0 dX2_splitIf_14 rfl rfl ?_
    refine j_get G hW 3 4 0 (.int (I a0 4)) k0 (by decide) rfl (by decide) rfl lay_X2 fl_X2_66 rfl rfl dX2_splitIf_15 ?_
    refine j_aload_n G 2 2 dX2_splitIf_18 rfl rfl ?_
    refine j_get G hW 1 3 0 (.int (I a2 3)) k2 (by decide) rfl (by decide) rfl lay_X0 fl_X2_100 rfl rfl dX2_splitIf_19 ?_
    refine j_ci (rn_N G (n := 2) (As := [.int (I a0 4), .int (I a2 3)]) (rest := []) (c_X9_isIn K hW l (I a0 4) (I a2 3) I J B _ h) (List.mem_of_getElem? (i := 2) rfl) st_X9_isIn in_X9 co_X9_isIn (by decide +kernel) rfl rfl (by decide) (by decide) rfl rfl (Nat.le_of_ble_eq_true rfl) dX2_splitIf_22) (fun r7 _ h => ?_)
    refine j_if_eq G 47 dX2_splitIf_25 (by decide) (fun c8 => ?_) (fun c8 => ?_)
    · have h := h.1 c8
      exact m_X2_splitIf_p47 G hW a0 x1 a2 k0 k2 I h
    · have h := h.2 c8
      refine j_aload_n G 0 0 dX2_splitIf_28 rfl rfl ?_
      refine j_iconst G (0 : Int32) dX2_splitIf_29 (by decide) ?_
      refine j_iload_n G 1 1 dX2_splitIf_30 rfl rfl ?_
      refine j_bipush G (16 : Int32) dX2_splitIf_31 (by decide) ?_
      refine j_cv (rn_V G hW (ci := 3) (n := 3) (As := [.int (0 : Int32), .int x1, .int (16 : Int32)]) (rest := []) (c_X2_addDeed K hW l a0 (0 : Int32) x1 (16 : Int32) k0 I J B _ h) k0 (by decide) rfl ml_X2_103 im_X2_addDeed se_X2_addDeed in_X2 co_X2_addDeed rfl (by decide +kernel) rfl rfl (by decide) (by decide) rfl rfl (Nat.le_of_ble_eq_true rfl) dX2_splitIf_33) (fun I9 h => ?_)
      refine j_aload_n G 0 0 dX2_splitIf_36 rfl rfl ?_
      refine j_iconst G (1 : Int32) dX2_splitIf_37 (by decide) ?_
      refine j_iload_n G 1 1 dX2_splitIf_38 rfl rfl ?_
      refine j_bipush G (17 : Int32) dX2_splitIf_39 (by decide) ?_
      refine j_cv (rn_V G hW (ci := 3) (n := 3) (As := [.int (1 : Int32), .int x1, .int (17 : Int32)]) (rest := []) (c_X2_addDeed K hW l a0 (1 : Int32) x1 (17 : Int32) k0 I9 J B _ h) k0 (by decide) rfl ml_X2_103 im_X2_addDeed se_X2_addDeed in_X2 co_X2_addDeed rfl (by decide +kernel) rfl rfl (by decide) (by decide) rfl rfl (Nat.le_of_ble_eq_true rfl) dX2_splitIf_41) (fun I10 h => ?_)
      refine j_goto G 81 dX2_splitIf_44 (by decide) ?_
      exact j_retv G I10 dX2_splitIf_81 h rfl
abbrev rm_X2_splitOne : Room := { frames := 4, cells := 0, slots := 0, locals := 91 }
def w_X2_splitOne (a0 : Nat) (x1 : Int32) (a2 : Nat) (I : MI) (Q : MI → Prop) : Prop :=
(((I a2 0) = (0 : Int32) → (w_X9_isIn (I a0 4) (I a2 1) (fun r1 =>
((r1 = 0 → (w_X2_addDeed a0 (1 : Int32) x1 (0 : Int32) I (fun I3 =>
Q I3))) ∧
(¬ r1 = 0 → (w_X2_addDeed a0 (0 : Int32) x1 (0 : Int32) I (fun I4 =>
Q I4))))))) ∧
((I a2 0) = (1 : Int32) ∨ (I a2 0) = (2 : Int32) ∨ (I a2 0) = (3 : Int32) → (w_X2_splitReckoning a0 x1 a2 I (fun I5 =>
Q I5))) ∧
((I a2 0) = (4 : Int32) → (w_X2_splitMemory a0 x1 a2 (10 : Int32) (11 : Int32) (12 : Int32) I (fun I6 =>
Q I6))) ∧
((I a2 0) = (5 : Int32) → (w_X2_splitMemory a0 x1 a2 (13 : Int32) (14 : Int32) (15 : Int32) I (fun I7 =>
Q I7))) ∧
((I a2 0) = (7 : Int32) → (w_X2_splitIf a0 x1 a2 I (fun I8 =>
Q I8))) ∧
(¬ (I a2 0) = (0 : Int32) → ¬ (I a2 0) = (1 : Int32) → ¬ (I a2 0) = (2 : Int32) → ¬ (I a2 0) = (3 : Int32) → ¬ (I a2 0) = (4 : Int32) → ¬ (I a2 0) = (5 : Int32) → ¬ (I a2 0) = (7 : Int32) → (w_X2_addDeed a0 (0 : Int32) x1 (I a2 0) I (fun I9 =>
(w_X2_addDeed a0 (1 : Int32) x1 (I9 a2 0) I9 (fun I10 =>
Q I10))))))
set_option maxHeartbeats 4000000 in
set_option maxRecDepth 100000 in
theorem c_X2_splitOne (K : Kx) (hW : WFK K) (l : Launch) (a0 : Nat) (x1 : Int32) (a2 : Nat) (k0 : (kG K a0).1 = 4) (k2 : (kG K a2).1 = 2) (I : MI) (J : MJ) (B : MR) (Q : MI → Prop) (h : w_X2_splitOne a0 x1 a2 I Q) : Con K l yX2_splitOne (wsT yX2_splitOne cX2_splitOne 3 none) rm_X2_splitOne [.ref a0, .int x1, .ref a2] (I, J, B) (va_Qv (S := MI) Q (fun u t => HP K (u, J, B) t.heap) (AA K)) := by
  refine Con.ofJ RX2 rfl (by decide) (Nat.le_of_ble_eq_true rfl) (fun m H0 w G => ?_)
  unfold w_X2_splitOne at h
  show Jg K m 3 H0 w 0 [(0, .ref a0), (1, .int x1), (2, .ref a2)] [] (I, J, B)
  refine j_aload_n G 2 2 dX2_splitOne_0 rfl rfl ?_
  refine j_get G hW 1 0 0 (.int (I a2 0)) k2 (by decide) rfl (by decide) rfl lay_X0 fl_X2_59 rfl rfl dX2_splitOne_1 ?_
  by_cases c11 : (I a2 0) = (0 : Int32)
  · have h := h.1 (c11)
    refine j_tableIn G 52 dX2_splitOne_4 (by rw [c11]; decide) (by rw [c11]; decide) (by rw [c11] <;> rfl) (by decide) ?_
    refine j_aload_n G 0 0 dX2_splitOne_52 rfl rfl ?_
    refine j_aload_n G 0 0 dX2_splitOne_53 rfl rfl ?_
    refine j_get G hW 3 4 0 (.int (I a0 4)) k0 (by decide) rfl (by decide) rfl lay_X2 fl_X2_66 rfl rfl dX2_splitOne_54 ?_
    refine j_aload_n G 2 2 dX2_splitOne_57 rfl rfl ?_
    refine j_get G hW 1 1 0 (.int (I a2 1)) k2 (by decide) rfl (by decide) rfl lay_X0 fl_X2_93 rfl rfl dX2_splitOne_58 ?_
    refine j_ci (rn_N G (n := 2) (As := [.int (I a0 4), .int (I a2 1)]) (rest := [.ref a0]) (c_X9_isIn K hW l (I a0 4) (I a2 1) I J B _ h) (List.mem_of_getElem? (i := 2) rfl) st_X9_isIn in_X9 co_X9_isIn (by decide +kernel) rfl rfl (by decide) (by decide) rfl rfl (Nat.le_of_ble_eq_true rfl) dX2_splitOne_61) (fun r1 _ h => ?_)
    refine j_if_eq G 71 dX2_splitOne_64 (by decide) (fun c2 => ?_) (fun c2 => ?_)
    · have h := h.1 c2
      refine j_iconst G (1 : Int32) dX2_splitOne_71 (by decide) ?_
      refine j_iload_n G 1 1 dX2_splitOne_72 rfl rfl ?_
      refine j_iconst G (0 : Int32) dX2_splitOne_73 (by decide) ?_
      refine j_cv (rn_V G hW (ci := 3) (n := 3) (As := [.int (1 : Int32), .int x1, .int (0 : Int32)]) (rest := []) (c_X2_addDeed K hW l a0 (1 : Int32) x1 (0 : Int32) k0 I J B _ h) k0 (by decide) rfl ml_X2_103 im_X2_addDeed se_X2_addDeed in_X2 co_X2_addDeed rfl (by decide +kernel) rfl rfl (by decide) (by decide) rfl rfl (Nat.le_of_ble_eq_true rfl) dX2_splitOne_74) (fun I3 h => ?_)
      refine j_goto G 148 dX2_splitOne_77 (by decide) ?_
      exact j_retv G I3 dX2_splitOne_148 h rfl
    · have h := h.2 c2
      refine j_iconst G (0 : Int32) dX2_splitOne_67 (by decide) ?_
      refine j_goto G 72 dX2_splitOne_68 (by decide) ?_
      refine j_iload_n G 1 1 dX2_splitOne_72 rfl rfl ?_
      refine j_iconst G (0 : Int32) dX2_splitOne_73 (by decide) ?_
      refine j_cv (rn_V G hW (ci := 3) (n := 3) (As := [.int (0 : Int32), .int x1, .int (0 : Int32)]) (rest := []) (c_X2_addDeed K hW l a0 (0 : Int32) x1 (0 : Int32) k0 I J B _ h) k0 (by decide) rfl ml_X2_103 im_X2_addDeed se_X2_addDeed in_X2 co_X2_addDeed rfl (by decide +kernel) rfl rfl (by decide) (by decide) rfl rfl (Nat.le_of_ble_eq_true rfl) dX2_splitOne_74) (fun I4 h => ?_)
      refine j_goto G 148 dX2_splitOne_77 (by decide) ?_
      exact j_retv G I4 dX2_splitOne_148 h rfl
  · skip
    by_cases c12 : (I a2 0) = (1 : Int32)
    · have h := h.2.1 (Or.inl c12)
      refine j_tableIn G 80 dX2_splitOne_4 (by rw [c12]; decide) (by rw [c12]; decide) (by rw [c12] <;> rfl) (by decide) ?_
      refine j_aload_n G 0 0 dX2_splitOne_80 rfl rfl ?_
      refine j_iload_n G 1 1 dX2_splitOne_81 rfl rfl ?_
      refine j_aload_n G 2 2 dX2_splitOne_82 rfl rfl ?_
      refine j_cv (rn_V G hW (ci := 3) (n := 2) (As := [.int x1, .ref a2]) (rest := []) (c_X2_splitReckoning K hW l a0 x1 a2 k0 k2 I J B _ h) k0 (by decide) rfl ml_X2_107 im_X2_splitReckoning se_X2_splitReckoning in_X2 co_X2_splitReckoning rfl (by decide +kernel) rfl rfl (by decide) (by decide) rfl rfl (Nat.le_of_ble_eq_true rfl) dX2_splitOne_83) (fun I5 h => ?_)
      refine j_goto G 148 dX2_splitOne_86 (by decide) ?_
      exact j_retv G I5 dX2_splitOne_148 h rfl
    · skip
      by_cases c13 : (I a2 0) = (2 : Int32)
      · have h := h.2.1 (Or.inr (Or.inl c13))
        refine j_tableIn G 80 dX2_splitOne_4 (by rw [c13]; decide) (by rw [c13]; decide) (by rw [c13] <;> rfl) (by decide) ?_
        refine j_aload_n G 0 0 dX2_splitOne_80 rfl rfl ?_
        refine j_iload_n G 1 1 dX2_splitOne_81 rfl rfl ?_
        refine j_aload_n G 2 2 dX2_splitOne_82 rfl rfl ?_
        refine j_cv (rn_V G hW (ci := 3) (n := 2) (As := [.int x1, .ref a2]) (rest := []) (c_X2_splitReckoning K hW l a0 x1 a2 k0 k2 I J B _ h) k0 (by decide) rfl ml_X2_107 im_X2_splitReckoning se_X2_splitReckoning in_X2 co_X2_splitReckoning rfl (by decide +kernel) rfl rfl (by decide) (by decide) rfl rfl (Nat.le_of_ble_eq_true rfl) dX2_splitOne_83) (fun I5 h => ?_)
        refine j_goto G 148 dX2_splitOne_86 (by decide) ?_
        exact j_retv G I5 dX2_splitOne_148 h rfl
      · skip
        by_cases c14 : (I a2 0) = (3 : Int32)
        · have h := h.2.1 (Or.inr (Or.inr (c14)))
          refine j_tableIn G 80 dX2_splitOne_4 (by rw [c14]; decide) (by rw [c14]; decide) (by rw [c14] <;> rfl) (by decide) ?_
          refine j_aload_n G 0 0 dX2_splitOne_80 rfl rfl ?_
          refine j_iload_n G 1 1 dX2_splitOne_81 rfl rfl ?_
          refine j_aload_n G 2 2 dX2_splitOne_82 rfl rfl ?_
          refine j_cv (rn_V G hW (ci := 3) (n := 2) (As := [.int x1, .ref a2]) (rest := []) (c_X2_splitReckoning K hW l a0 x1 a2 k0 k2 I J B _ h) k0 (by decide) rfl ml_X2_107 im_X2_splitReckoning se_X2_splitReckoning in_X2 co_X2_splitReckoning rfl (by decide +kernel) rfl rfl (by decide) (by decide) rfl rfl (Nat.le_of_ble_eq_true rfl) dX2_splitOne_83) (fun I5 h => ?_)
          refine j_goto G 148 dX2_splitOne_86 (by decide) ?_
          exact j_retv G I5 dX2_splitOne_148 h rfl
        · skip
          by_cases c15 : (I a2 0) = (4 : Int32)
          · have h := h.2.2.1 (c15)
            refine j_tableIn G 89 dX2_splitOne_4 (by rw [c15]; decide) (by rw [c15]; decide) (by rw [c15] <;> rfl) (by decide) ?_
            refine j_aload_n G 0 0 dX2_splitOne_89 rfl rfl ?_
            refine j_iload_n G 1 1 dX2_splitOne_90 rfl rfl ?_
            refine j_aload_n G 2 2 dX2_splitOne_91 rfl rfl ?_
            refine j_bipush G (10 : Int32) dX2_splitOne_92 (by decide) ?_
            refine j_bipush G (11 : Int32) dX2_splitOne_94 (by decide) ?_
            refine j_bipush G (12 : Int32) dX2_splitOne_96 (by decide) ?_
            refine j_cv (rn_V G hW (ci := 3) (n := 5) (As := [.int x1, .ref a2, .int (10 : Int32), .int (11 : Int32), .int (12 : Int32)]) (rest := []) (c_X2_splitMemory K hW l a0 x1 a2 (10 : Int32) (11 : Int32) (12 : Int32) k0 k2 I J B _ h) k0 (by decide) rfl ml_X2_110 im_X2_splitMemory se_X2_splitMemory in_X2 co_X2_splitMemory rfl (by decide +kernel) rfl rfl (by decide) (by decide) rfl rfl (Nat.le_of_ble_eq_true rfl) dX2_splitOne_98) (fun I6 h => ?_)
            refine j_goto G 148 dX2_splitOne_101 (by decide) ?_
            exact j_retv G I6 dX2_splitOne_148 h rfl
          · skip
            by_cases c16 : (I a2 0) = (5 : Int32)
            · have h := h.2.2.2.1 (c16)
              refine j_tableIn G 104 dX2_splitOne_4 (by rw [c16]; decide) (by rw [c16]; decide) (by rw [c16] <;> rfl) (by decide) ?_
              refine j_aload_n G 0 0 dX2_splitOne_104 rfl rfl ?_
              refine j_iload_n G 1 1 dX2_splitOne_105 rfl rfl ?_
              refine j_aload_n G 2 2 dX2_splitOne_106 rfl rfl ?_
              refine j_bipush G (13 : Int32) dX2_splitOne_107 (by decide) ?_
              refine j_bipush G (14 : Int32) dX2_splitOne_109 (by decide) ?_
              refine j_bipush G (15 : Int32) dX2_splitOne_111 (by decide) ?_
              refine j_cv (rn_V G hW (ci := 3) (n := 5) (As := [.int x1, .ref a2, .int (13 : Int32), .int (14 : Int32), .int (15 : Int32)]) (rest := []) (c_X2_splitMemory K hW l a0 x1 a2 (13 : Int32) (14 : Int32) (15 : Int32) k0 k2 I J B _ h) k0 (by decide) rfl ml_X2_110 im_X2_splitMemory se_X2_splitMemory in_X2 co_X2_splitMemory rfl (by decide +kernel) rfl rfl (by decide) (by decide) rfl rfl (Nat.le_of_ble_eq_true rfl) dX2_splitOne_113) (fun I7 h => ?_)
              refine j_goto G 148 dX2_splitOne_116 (by decide) ?_
              exact j_retv G I7 dX2_splitOne_148 h rfl
            · skip
              by_cases c17 : (I a2 0) = (7 : Int32)
              · have h := h.2.2.2.2.1 (c17)
                refine j_tableIn G 119 dX2_splitOne_4 (by rw [c17]; decide) (by rw [c17]; decide) (by rw [c17] <;> rfl) (by decide) ?_
                refine j_aload_n G 0 0 dX2_splitOne_119 rfl rfl ?_
                refine j_iload_n G 1 1 dX2_splitOne_120 rfl rfl ?_
                refine j_aload_n G 2 2 dX2_splitOne_121 rfl rfl ?_
                refine j_cv (rn_V G hW (ci := 3) (n := 2) (As := [.int x1, .ref a2]) (rest := []) (c_X2_splitIf K hW l a0 x1 a2 k0 k2 I J B _ h) k0 (by decide) rfl ml_X2_114 im_X2_splitIf se_X2_splitIf in_X2 co_X2_splitIf rfl (by decide +kernel) rfl rfl (by decide) (by decide) rfl rfl (Nat.le_of_ble_eq_true rfl) dX2_splitOne_122) (fun I8 h => ?_)
                refine j_goto G 148 dX2_splitOne_125 (by decide) ?_
                exact j_retv G I8 dX2_splitOne_148 h rfl
              · skip
                have h := h.2.2.2.2.2 c11 c12 c13 c14 c15 c16 c17
                by_cases c18 : (I a2 0) = (6 : Int32)
                · refine j_tableIn G 128 dX2_splitOne_4 (by rw [c18]; decide) (by rw [c18]; decide) (by rw [c18] <;> rfl) (by decide) ?_
                  refine j_aload_n G 0 0 dX2_splitOne_128 rfl rfl ?_
                  refine j_iconst G (0 : Int32) dX2_splitOne_129 (by decide) ?_
                  refine j_iload_n G 1 1 dX2_splitOne_130 rfl rfl ?_
                  refine j_aload_n G 2 2 dX2_splitOne_131 rfl rfl ?_
                  refine j_get G hW 1 0 0 (.int (I a2 0)) k2 (by decide) rfl (by decide) rfl lay_X0 fl_X2_59 rfl rfl dX2_splitOne_132 ?_
                  refine j_cv (rn_V G hW (ci := 3) (n := 3) (As := [.int (0 : Int32), .int x1, .int (I a2 0)]) (rest := []) (c_X2_addDeed K hW l a0 (0 : Int32) x1 (I a2 0) k0 I J B _ h) k0 (by decide) rfl ml_X2_103 im_X2_addDeed se_X2_addDeed in_X2 co_X2_addDeed rfl (by decide +kernel) rfl rfl (by decide) (by decide) rfl rfl (Nat.le_of_ble_eq_true rfl) dX2_splitOne_135) (fun I9 h => ?_)
                  refine j_aload_n G 0 0 dX2_splitOne_138 rfl rfl ?_
                  refine j_iconst G (1 : Int32) dX2_splitOne_139 (by decide) ?_
                  refine j_iload_n G 1 1 dX2_splitOne_140 rfl rfl ?_
                  refine j_aload_n G 2 2 dX2_splitOne_141 rfl rfl ?_
                  refine j_get G hW 1 0 0 (.int (I9 a2 0)) k2 (by decide) rfl (by decide) rfl lay_X0 fl_X2_59 rfl rfl dX2_splitOne_142 ?_
                  refine j_cv (rn_V G hW (ci := 3) (n := 3) (As := [.int (1 : Int32), .int x1, .int (I9 a2 0)]) (rest := []) (c_X2_addDeed K hW l a0 (1 : Int32) x1 (I9 a2 0) k0 I9 J B _ h) k0 (by decide) rfl ml_X2_103 im_X2_addDeed se_X2_addDeed in_X2 co_X2_addDeed rfl (by decide +kernel) rfl rfl (by decide) (by decide) rfl rfl (Nat.le_of_ble_eq_true rfl) dX2_splitOne_145) (fun I10 h => ?_)
                  exact j_retv G I10 dX2_splitOne_148 h rfl
                · skip
                  have nc11 := sw_ne (n := 0) rfl c11
                  have nc12 := sw_ne (n := 1) rfl c12
                  have nc13 := sw_ne (n := 2) rfl c13
                  have nc14 := sw_ne (n := 3) rfl c14
                  have nc15 := sw_ne (n := 4) rfl c15
                  have nc16 := sw_ne (n := 5) rfl c16
                  have nc18 := sw_ne (n := 6) rfl c18
                  have nc17 := sw_ne (n := 7) rfl c17
                  refine j_tableOut G 128 dX2_splitOne_4 (by omega) (by decide) ?_
                  refine j_aload_n G 0 0 dX2_splitOne_128 rfl rfl ?_
                  refine j_iconst G (0 : Int32) dX2_splitOne_129 (by decide) ?_
                  refine j_iload_n G 1 1 dX2_splitOne_130 rfl rfl ?_
                  refine j_aload_n G 2 2 dX2_splitOne_131 rfl rfl ?_
                  refine j_get G hW 1 0 0 (.int (I a2 0)) k2 (by decide) rfl (by decide) rfl lay_X0 fl_X2_59 rfl rfl dX2_splitOne_132 ?_
                  refine j_cv (rn_V G hW (ci := 3) (n := 3) (As := [.int (0 : Int32), .int x1, .int (I a2 0)]) (rest := []) (c_X2_addDeed K hW l a0 (0 : Int32) x1 (I a2 0) k0 I J B _ h) k0 (by decide) rfl ml_X2_103 im_X2_addDeed se_X2_addDeed in_X2 co_X2_addDeed rfl (by decide +kernel) rfl rfl (by decide) (by decide) rfl rfl (Nat.le_of_ble_eq_true rfl) dX2_splitOne_135) (fun I9 h => ?_)
                  refine j_aload_n G 0 0 dX2_splitOne_138 rfl rfl ?_
                  refine j_iconst G (1 : Int32) dX2_splitOne_139 (by decide) ?_
                  refine j_iload_n G 1 1 dX2_splitOne_140 rfl rfl ?_
                  refine j_aload_n G 2 2 dX2_splitOne_141 rfl rfl ?_
                  refine j_get G hW 1 0 0 (.int (I9 a2 0)) k2 (by decide) rfl (by decide) rfl lay_X0 fl_X2_59 rfl rfl dX2_splitOne_142 ?_
                  refine j_cv (rn_V G hW (ci := 3) (n := 3) (As := [.int (1 : Int32), .int x1, .int (I9 a2 0)]) (rest := []) (c_X2_addDeed K hW l a0 (1 : Int32) x1 (I9 a2 0) k0 I9 J B _ h) k0 (by decide) rfl ml_X2_103 im_X2_addDeed se_X2_addDeed in_X2 co_X2_addDeed rfl (by decide +kernel) rfl rfl (by decide) (by decide) rfl rfl (Nat.le_of_ble_eq_true rfl) dX2_splitOne_145) (fun I10 h => ?_)
                  exact j_retv G I10 dX2_splitOne_148 h rfl
abbrev rm_X2_split : Room := { frames := 5, cells := 0, slots := 0, locals := 113 }
def w_X2_split_l10 (a0 : Nat)  (ke26 : Int32 → MI → Prop) (Q : MI → Prop) (rec : Int32 → MI → Prop) (x1 : Int32) (I : MI) : Prop :=
(((8 : Int32) < x1 → ke26 x1 I) ∧
(¬ (8 : Int32) < x1 → (w_X2_widenAims a0 I (fun I3 =>
rec (x1 + 1) I3))))
set_option maxHeartbeats 4000000 in
set_option maxRecDepth 100000 in
theorem m_X2_split_l10 {K : Kx} {l : Launch} {m : MethodId} {H0 : Heap} {Q : MI → Prop} {w : HW} {J : MJ} {B : MR} (G : Gd l rm_X2_split K m RX2 cX2_split 2 H0 none (va_Qv (S := MI) Q (fun u t => HP K (u, J, B) t.heap) (AA K)) w) (hW : WFK K) (a0 : Nat) (x1 : Int32) (ka0 : (kG K a0).1 = 4) (I : MI) (ke26 : Int32 → MI → Prop) (hke26 : ∀ (x1 : Int32) (I : MI), ke26 x1 I → Jg K m 2 H0 w 26 [(0, .ref a0)] [] (I, J, B)) (h : Lp2 (w_X2_split_l10 a0 ke26 Q) x1 I) : Jg K m 2 H0 w 10 [(0, .ref a0), (1, .int x1)] [] (I, J, B) := by
  obtain ⟨n, h⟩ := h
  refine lpN2_ind (P := (fun (x1 : Int32) (I : MI) => Jg K m 2 H0 w 10 [(0, .ref a0), (1, .int x1)] [] (I, J, B))) (fun rec hrec x1 I h => ?_) n x1 I h
  unfold w_X2_split_l10 at h
  refine j_iload_n G 1 1 dX2_split_10 rfl rfl ?_
  refine j_bipush G (8 : Int32) dX2_split_11 (by decide) ?_
  refine j_icmp_gt G 26 dX2_split_13 (by decide) (fun c2 => ?_) (fun c2 => ?_)
  · have h := h.1 c2
    exact Jg.sub [0] rfl (hke26 x1 I h)
  · have h := h.2 c2
    refine j_aload_n G 0 0 dX2_split_16 rfl rfl ?_
    refine j_cv (rn_V G hW (ci := 3) (n := 0) (As := []) (rest := []) (c_X2_widenAims K hW l a0 ka0 I J B _ h) ka0 (by decide) rfl ml_X2_75 im_X2_widenAims se_X2_widenAims in_X2 co_X2_widenAims rfl (by decide +kernel) rfl rfl (by decide) (by decide) rfl rfl (Nat.le_of_ble_eq_true rfl) dX2_split_17) (fun I3 h => ?_)
    refine j_iinc G 1 (x1 + 1) [(1, .int (x1 + 1)), (0, .ref a0)] dX2_split_20 rfl rfl (by decide) rfl ?_
    refine j_goto G 10 dX2_split_23 (by decide) ?_
    exact Jg.sub [1, 0] rfl (hrec (x1 + 1) I3 h)
def w_X2_split_l36 (a0 : Nat)   (Q : MI → Prop) (rec : Int32 → MI → Prop) (x1 : Int32) (I : MI) : Prop :=
(((I a0 1) < x1 → Q I) ∧
(¬ (I a0 1) < x1 → (vp_in x1 25 ∧
(w_X2_splitOne a0 x1 (a0 + 9 + ix x1) I (fun I12 =>
rec (x1 + 1) I12)))))
set_option maxHeartbeats 4000000 in
set_option maxRecDepth 100000 in
theorem m_X2_split_l36 {K : Kx} {l : Launch} {m : MethodId} {H0 : Heap} {Q : MI → Prop} {w : HW} {J : MJ} {B : MR} (G : Gd l rm_X2_split K m RX2 cX2_split 2 H0 none (va_Qv (S := MI) Q (fun u t => HP K (u, J, B) t.heap) (AA K)) w) (hW : WFK K) (a0 : Nat) (x1 : Int32) (ka0 : (kG K a0).1 = 4) (I : MI)   (h : Lp2 (w_X2_split_l36 a0 Q) x1 I) : Jg K m 2 H0 w 36 [(0, .ref a0), (1, .int x1)] [] (I, J, B) := by
  obtain ⟨n, h⟩ := h
  refine lpN2_ind (P := (fun (x1 : Int32) (I : MI) => Jg K m 2 H0 w 36 [(0, .ref a0), (1, .int x1)] [] (I, J, B))) (fun rec hrec x1 I h => ?_) n x1 I h
  unfold w_X2_split_l36 at h
  refine j_iload_n G 1 1 dX2_split_36 rfl rfl ?_
  refine j_aload_n G 0 0 dX2_split_37 rfl rfl ?_
  refine j_get G hW 3 1 0 (.int (I a0 1)) ka0 (by decide) rfl (by decide) rfl lay_X2 fl_X2_43 rfl rfl dX2_split_38 ?_
  refine j_icmp_gt G 61 dX2_split_41 (by decide) (fun c8 => ?_) (fun c8 => ?_)
  · have h := h.1 c8
    exact j_retv G I dX2_split_61 h rfl
  · have h := h.2 c8
    refine j_aload_n G 0 0 dX2_split_44 rfl rfl ?_
    refine j_iload_n G 1 1 dX2_split_45 rfl rfl ?_
    refine j_aload_n G 0 0 dX2_split_46 rfl rfl ?_
    have kk9 : kG K (a0 + 1) = (24, 25) := wk_4_1 hW ka0
    refine j_get G hW 3 0 4 (.ref (a0 + 1)) ka0 (by decide) rfl (by decide) rfl lay_X2 fl_X2_11 rfl rfl dX2_split_47 ?_
    refine j_iload_n G 1 1 dX2_split_50 rfl rfl ?_
    obtain ⟨b10, h⟩ := h
    have kk11 : (kG K (a0 + 9 + ix x1)).1 = 2 := wk_a24 (i := x1) hW kk9 b10 (ad3 rfl)
    refine j_aald24 G hW (i := x1) (b := a0 + 9 + ix x1) kk9 b10 (ad3 rfl) dX2_split_51 ?_
    refine j_cv (rn_V G hW (ci := 3) (n := 2) (As := [.int x1, .ref (a0 + 9 + ix x1)]) (rest := []) (c_X2_splitOne K hW l a0 x1 (a0 + 9 + ix x1) ka0 kk11 I J B _ h) ka0 (by decide) rfl ml_X2_78 im_X2_splitOne se_X2_splitOne in_X2 co_X2_splitOne rfl (by decide +kernel) rfl rfl (by decide) (by decide) rfl rfl (Nat.le_of_ble_eq_true rfl) dX2_split_52) (fun I12 h => ?_)
    refine j_iinc G 1 (x1 + 1) [(1, .int (x1 + 1)), (0, .ref a0)] dX2_split_55 rfl rfl (by decide) rfl ?_
    refine j_goto G 36 dX2_split_58 (by decide) ?_
    exact Jg.sub [1, 0] rfl (hrec (x1 + 1) I12 h)
def w_X2_split (a0 : Nat) (I : MI) (Q : MI → Prop) : Prop :=
(∀ I1, I1 = ui I a0 4 (I a0 3) →
Lp2 (w_X2_split_l10 a0 (fun x1_4 I5 => (∀ I7, I7 = uf I5 (a0 + 7) 50 (0 : Int32) →
Lp2 (w_X2_split_l36 a0 Q) (0 : Int32) I7)) Q) (0 : Int32) I1)
set_option maxHeartbeats 4000000 in
set_option maxRecDepth 100000 in
theorem c_X2_split (K : Kx) (hW : WFK K) (l : Launch) (a0 : Nat) (k0 : (kG K a0).1 = 4) (I : MI) (J : MJ) (B : MR) (Q : MI → Prop) (h : w_X2_split a0 I Q) : Con K l yX2_split (wsT yX2_split cX2_split 2 none) rm_X2_split [.ref a0] (I, J, B) (va_Qv (S := MI) Q (fun u t => HP K (u, J, B) t.heap) (AA K)) := by
  refine Con.ofJ RX2 rfl (by decide) (Nat.le_of_ble_eq_true rfl) (fun m H0 w G => ?_)
  unfold w_X2_split at h
  show Jg K m 2 H0 w 0 [(0, .ref a0)] [] (I, J, B)
  refine j_aload_n G 0 0 dX2_split_0 rfl rfl ?_
  refine j_aload_n G 0 0 dX2_split_1 rfl rfl ?_
  refine j_get G hW 3 3 0 (.int (I a0 3)) k0 (by decide) rfl (by decide) rfl lay_X2 fl_X2_50 rfl rfl dX2_split_2 ?_
  refine j_put G hW 3 4 tyX2 (tyX2 4) tyX2_ok nmX2 k0 (by decide) rfl (by decide) rfl lay_X2 fl_X2_66 rfl rfl (tyX2_ok 4 (by decide)) rfl rfl dX2_split_5 ?_
  refine j_mI (fun I1 eI1 => ?_)
  have h := h I1 eI1
  refine j_iconst G (0 : Int32) dX2_split_8 (by decide) ?_
  refine j_istore_n G 1 [(1, .int (0 : Int32)), (0, .ref a0)] dX2_split_9 rfl (by decide) rfl ?_
  refine Jg.sub [1, 0] rfl (m_X2_split_l10 G hW a0 (0 : Int32) k0 I1 _ ?_ h)
  intro x1_4 I5 h
  refine j_aload_n G 0 0 dX2_split_26 rfl rfl ?_
  have kk6 : kG K (a0 + 7) = (20, 50) := wk_4_7 hW k0
  refine j_get G hW 3 10 10 (.ref (a0 + 7)) k0 (by decide) rfl (by decide) rfl lay_X2 fl_X2_33 rfl rfl dX2_split_27 ?_
  refine j_iconst G (0 : Int32) dX2_split_30 (by decide) ?_
  refine j_fill G hW kk6 (by decide) ml_X2_53 st_J7_fill_53178 in_J7 co_J7_fill_53178 (by decide) (by decide) (Nat.le_of_ble_eq_true rfl) dX2_split_31 ?_
  refine j_mI (fun I7 eI7 => ?_)
  have h := h I7 eI7
  refine j_iconst G (0 : Int32) dX2_split_34 (by decide) ?_
  refine j_istore_n G 1 [(1, .int (0 : Int32)), (0, .ref a0)] dX2_split_35 rfl (by decide) rfl ?_
  refine Jg.sub [1, 0] rfl (m_X2_split_l36 G hW a0 (0 : Int32) k0 I7 h)
abbrev rm_X2_deedsInAll : Room := { frames := 2, cells := 0, slots := 0, locals := 42 }
def w_X2_deedsInAll_l4 (a0 : Nat) (x1 : Int32) (I : MI)  (Q : Int32 →  Prop) (rec : Int32 → Int32 → Prop) (x2 : Int32) (x3 : Int32) : Prop :=
(((I a0 1) < x3 → Q x2) ∧
(¬ (I a0 1) < x3 → (w_X2_deedsAt a0 x1 x3 I (fun r2 =>
(∀ x2_3, x2_3 = x2 + r2 →
rec x2_3 (x3 + 1))))))
set_option maxHeartbeats 4000000 in
set_option maxRecDepth 100000 in
theorem m_X2_deedsInAll_l4 {K : Kx} {l : Launch} {m : MethodId} {H0 : Heap} {Q : Int32 →  Prop} {w : HW} {I : MI} {J : MJ} {B : MR} (G : Gd l rm_X2_deedsInAll K m RX2 cX2_deedsInAll 4 H0 (some .int) (va_Qi (S := Unit) (fun r _ => Q r) (fun u t => HP K (I, J, B) t.heap) (AA K)) w) (hW : WFK K) (a0 : Nat) (x1 : Int32) (x2 : Int32) (x3 : Int32) (ka0 : (kG K a0).1 = 4)    (h : Lp2 (w_X2_deedsInAll_l4 a0 x1 I Q) x2 x3) : Jg K m 4 H0 w 4 [(0, .ref a0), (1, .int x1), (2, .int x2), (3, .int x3)] [] (I, J, B) := by
  obtain ⟨n, h⟩ := h
  refine lpN2_ind (P := (fun (x2 : Int32) (x3 : Int32) => Jg K m 4 H0 w 4 [(0, .ref a0), (1, .int x1), (2, .int x2), (3, .int x3)] [] (I, J, B))) (fun rec hrec x2 x3 h => ?_) n x2 x3 h
  unfold w_X2_deedsInAll_l4 at h
  refine j_iload_n G 3 3 dX2_deedsInAll_4 rfl rfl ?_
  refine j_aload_n G 0 0 dX2_deedsInAll_5 rfl rfl ?_
  refine j_get G hW 3 1 0 (.int (I a0 1)) ka0 (by decide) rfl (by decide) rfl lay_X2 fl_X2_43 rfl rfl dX2_deedsInAll_6 ?_
  refine j_icmp_gt G 27 dX2_deedsInAll_9 (by decide) (fun c1 => ?_) (fun c1 => ?_)
  · have h := h.1 c1
    refine j_iload_n G 2 2 dX2_deedsInAll_27 rfl rfl ?_
    exact j_reti G () rfl dX2_deedsInAll_28 h rfl
  · have h := h.2 c1
    refine j_iload_n G 2 2 dX2_deedsInAll_12 rfl rfl ?_
    refine j_aload_n G 0 0 dX2_deedsInAll_13 rfl rfl ?_
    refine j_iload_n G 1 1 dX2_deedsInAll_14 rfl rfl ?_
    refine j_iload_n G 3 3 dX2_deedsInAll_15 rfl rfl ?_
    refine j_ci (rn_V G hW (ci := 3) (n := 2) (As := [.int x1, .int x3]) (rest := [.int x2]) (c_X2_deedsAt K hW l a0 x1 x3 ka0 I J B _ h) ka0 (by decide) rfl ml_X2_128 im_X2_deedsAt se_X2_deedsAt in_X2 co_X2_deedsAt rfl (by decide +kernel) rfl rfl (by decide) (by decide) rfl rfl (Nat.le_of_ble_eq_true rfl) dX2_deedsInAll_16) (fun r2 _ h => ?_)
    refine j_iadd G dX2_deedsInAll_19 ?_
    refine j_nm (fun x2_3 ex2_3 => ?_)
    have h := h x2_3 ex2_3
    refine j_istore_n G 2 [(2, .int x2_3), (0, .ref a0), (1, .int x1), (3, .int x3)] dX2_deedsInAll_20 rfl (by decide) rfl ?_
    refine j_iinc G 3 (x3 + 1) [(3, .int (x3 + 1)), (2, .int x2_3), (0, .ref a0), (1, .int x1)] dX2_deedsInAll_21 rfl rfl (by decide) rfl ?_
    refine j_goto G 4 dX2_deedsInAll_24 (by decide) ?_
    exact Jg.sub [2, 3, 1, 0] rfl (hrec x2_3 (x3 + 1) h)
def w_X2_deedsInAll (a0 : Nat) (x1 : Int32) (I : MI) (Q : Int32 →  Prop) : Prop :=
Lp2 (w_X2_deedsInAll_l4 a0 x1 I Q) (0 : Int32) (0 : Int32)
set_option maxHeartbeats 4000000 in
set_option maxRecDepth 100000 in
theorem c_X2_deedsInAll (K : Kx) (hW : WFK K) (l : Launch) (a0 : Nat) (x1 : Int32) (k0 : (kG K a0).1 = 4) (I : MI) (J : MJ) (B : MR) (Q : Int32 →  Prop) (h : w_X2_deedsInAll a0 x1 I Q) : Con K l yX2_deedsInAll (wsT yX2_deedsInAll cX2_deedsInAll 4 (some .int)) rm_X2_deedsInAll [.ref a0, .int x1] (I, J, B) (va_Qi (S := Unit) (fun r _ => Q r) (fun u t => HP K (I, J, B) t.heap) (AA K)) := by
  refine Con.ofJ RX2 rfl (by decide) (Nat.le_of_ble_eq_true rfl) (fun m H0 w G => ?_)
  unfold w_X2_deedsInAll at h
  show Jg K m 4 H0 w 0 [(0, .ref a0), (1, .int x1)] [] (I, J, B)
  refine j_iconst G (0 : Int32) dX2_deedsInAll_0 (by decide) ?_
  refine j_istore_n G 2 [(2, .int (0 : Int32)), (0, .ref a0), (1, .int x1)] dX2_deedsInAll_1 rfl (by decide) rfl ?_
  refine j_iconst G (0 : Int32) dX2_deedsInAll_2 (by decide) ?_
  refine j_istore_n G 3 [(3, .int (0 : Int32)), (2, .int (0 : Int32)), (0, .ref a0), (1, .int x1)] dX2_deedsInAll_3 rfl (by decide) rfl ?_
  refine Jg.sub [2, 3, 1, 0] rfl (m_X2_deedsInAll_l4 G hW a0 x1 (0 : Int32) (0 : Int32) k0 h)
abbrev rm_X2_hasDeed : Room := { frames := 2, cells := 0, slots := 0, locals := 42 }
def w_X2_hasDeed (a0 : Nat) (x1 : Int32) (x2 : Int32) (x3 : Int32) (I : MI) (Q : Int32 →  Prop) : Prop :=
((x3 < 0 → Q (0 : Int32)) ∧
(¬ x3 < 0 → (w_X2_deedsAt a0 x1 x2 I (fun r2 =>
((r2 ≤ x3 → Q (0 : Int32)) ∧
(¬ r2 ≤ x3 → Q (1 : Int32)))))))
set_option maxHeartbeats 4000000 in
set_option maxRecDepth 100000 in
theorem c_X2_hasDeed (K : Kx) (hW : WFK K) (l : Launch) (a0 : Nat) (x1 : Int32) (x2 : Int32) (x3 : Int32) (k0 : (kG K a0).1 = 4) (I : MI) (J : MJ) (B : MR) (Q : Int32 →  Prop) (h : w_X2_hasDeed a0 x1 x2 x3 I Q) : Con K l yX2_hasDeed (wsT yX2_hasDeed cX2_hasDeed 4 (some .boolean)) rm_X2_hasDeed [.ref a0, .int x1, .int x2, .int x3] (I, J, B) (va_Qi (S := Unit) (fun r _ => Q r) (fun u t => HP K (I, J, B) t.heap) (AA K)) := by
  refine Con.ofJ RX2 rfl (by decide) (Nat.le_of_ble_eq_true rfl) (fun m H0 w G => ?_)
  unfold w_X2_hasDeed at h
  show Jg K m 4 H0 w 0 [(0, .ref a0), (1, .int x1), (2, .int x2), (3, .int x3)] [] (I, J, B)
  refine j_iload_n G 3 3 dX2_hasDeed_0 rfl rfl ?_
  refine j_if_lt G 18 dX2_hasDeed_1 (by decide) (fun c1 => ?_) (fun c1 => ?_)
  · have h := h.1 c1
    refine j_iconst G (0 : Int32) dX2_hasDeed_18 (by decide) ?_
    exact j_reti G () (by decide) dX2_hasDeed_19 h rfl
  · have h := h.2 c1
    refine j_iload_n G 3 3 dX2_hasDeed_4 rfl rfl ?_
    refine j_aload_n G 0 0 dX2_hasDeed_5 rfl rfl ?_
    refine j_iload_n G 1 1 dX2_hasDeed_6 rfl rfl ?_
    refine j_iload_n G 2 2 dX2_hasDeed_7 rfl rfl ?_
    refine j_ci (rn_V G hW (ci := 3) (n := 2) (As := [.int x1, .int x2]) (rest := [.int x3]) (c_X2_deedsAt K hW l a0 x1 x2 k0 I J B _ h) k0 (by decide) rfl ml_X2_128 im_X2_deedsAt se_X2_deedsAt in_X2 co_X2_deedsAt rfl (by decide +kernel) rfl rfl (by decide) (by decide) rfl rfl (Nat.le_of_ble_eq_true rfl) dX2_hasDeed_8) (fun r2 _ h => ?_)
    refine j_icmp_ge G 18 dX2_hasDeed_11 (by decide) (fun c3 => ?_) (fun c3 => ?_)
    · have h := h.1 c3
      refine j_iconst G (0 : Int32) dX2_hasDeed_18 (by decide) ?_
      exact j_reti G () (by decide) dX2_hasDeed_19 h rfl
    · have h := h.2 c3
      refine j_iconst G (1 : Int32) dX2_hasDeed_14 (by decide) ?_
      refine j_goto G 19 dX2_hasDeed_15 (by decide) ?_
      exact j_reti G () (by decide) dX2_hasDeed_19 h rfl
abbrev rm_X2_sentAt : Room := { frames := 0, cells := 0, slots := 0, locals := 0 }
def w_X2_sentAt (a0 : Nat) (x1 : Int32) (x2 : Int32) (I : MI) (Q : Int32 →  Prop) : Prop :=
(vp_in ((x1 * (2 : Int32)) + x2) 50 ∧
Q (I (a0 + 6) (ix ((x1 * (2 : Int32)) + x2))))
set_option maxHeartbeats 4000000 in
set_option maxRecDepth 100000 in
theorem c_X2_sentAt (K : Kx) (hW : WFK K) (l : Launch) (a0 : Nat) (x1 : Int32) (x2 : Int32) (k0 : (kG K a0).1 = 4) (I : MI) (J : MJ) (B : MR) (Q : Int32 →  Prop) (h : w_X2_sentAt a0 x1 x2 I Q) : Con K l yX2_sentAt (wsT yX2_sentAt cX2_sentAt 3 (some .int)) rm_X2_sentAt [.ref a0, .int x1, .int x2] (I, J, B) (va_Qi (S := Unit) (fun r _ => Q r) (fun u t => HP K (I, J, B) t.heap) (AA K)) := by
  refine Con.ofJ RX2 rfl (by decide) (Nat.le_of_ble_eq_true rfl) (fun m H0 w G => ?_)
  unfold w_X2_sentAt at h
  show Jg K m 3 H0 w 0 [(0, .ref a0), (1, .int x1), (2, .int x2)] [] (I, J, B)
  refine j_aload_n G 0 0 dX2_sentAt_0 rfl rfl ?_
  have kk1 : kG K (a0 + 6) = (20, 50) := wk_4_6 hW k0
  refine j_get G hW 3 9 9 (.ref (a0 + 6)) k0 (by decide) rfl (by decide) rfl lay_X2 fl_X2_30 rfl rfl dX2_sentAt_1 ?_
  refine j_iload_n G 1 1 dX2_sentAt_4 rfl rfl ?_
  refine j_iconst G (2 : Int32) dX2_sentAt_5 (by decide) ?_
  refine j_imul G dX2_sentAt_6 ?_
  refine j_iload_n G 2 2 dX2_sentAt_7 rfl rfl ?_
  refine j_iadd G dX2_sentAt_8 ?_
  obtain ⟨b2, h⟩ := h
  refine j_iald G hW kk1 b2 dX2_sentAt_9 ?_
  exact j_reti G () rfl dX2_sentAt_10 h rfl
abbrev rm_X2_letterOf : Room := { frames := 0, cells := 0, slots := 0, locals := 0 }
def w_X2_letterOf (x0 : Int32)  (Q : Int32 →  Prop) : Prop :=
(chr ((Int32.toUInt32 ((97 : Int32) + x0) % 65536).toInt32) ∧
Q ((Int32.toUInt32 ((97 : Int32) + x0) % 65536).toInt32))
set_option maxHeartbeats 4000000 in
set_option maxRecDepth 100000 in
theorem c_X2_letterOf (K : Kx) (hW : WFK K) (l : Launch) (x0 : Int32)  (I : MI) (J : MJ) (B : MR) (Q : Int32 →  Prop) (h : w_X2_letterOf x0 Q) : Con K l yX2_letterOf (wsT yX2_letterOf cX2_letterOf 1 (some .char)) rm_X2_letterOf [.int x0] (I, J, B) (va_Qi (S := Unit) (fun r _ => Q r) (fun u t => HP K (I, J, B) t.heap) (AA K)) := by
  refine Con.ofJ RX2 rfl (by decide) (Nat.le_of_ble_eq_true rfl) (fun m H0 w G => ?_)
  unfold w_X2_letterOf at h
  show Jg K m 1 H0 w 0 [(0, .int x0)] [] (I, J, B)
  refine j_bipush G (97 : Int32) dX2_letterOf_0 (by decide) ?_
  refine j_iload_n G 0 0 dX2_letterOf_2 rfl rfl ?_
  refine j_iadd G dX2_letterOf_3 ?_
  refine j_i2c G dX2_letterOf_4 ?_
  obtain ⟨q1, h⟩ := h
  exact j_reti G () (chr_n q1) dX2_letterOf_5 h rfl
abbrev rm_X2_followers : Room := { frames := 1, cells := 0, slots := 0, locals := 20 }
def w_X2_followers (a0 : Nat) (x1 : Int32) (I : MI) (Q : Int32 →  Prop) : Prop :=
(vp_in x1 25 ∧
(((I (a0 + 9 + ix x1) 0) = (6 : Int32) → (vp_in x1 25 ∧
(w_X9_bit (I (a0 + 9 + ix x1) 4) (fun r5 =>
Q r5)))) ∧
((I (a0 + 9 + ix x1) 0) = (7 : Int32) → (vp_in x1 25 ∧
(w_X9_bit (I (a0 + 9 + ix x1) 4) (fun r7 =>
(w_X9_bit (x1 + (1 : Int32)) (fun r8 =>
Q (r7 ||| r8))))))) ∧
((I (a0 + 9 + ix x1) 0) = (8 : Int32) → Q (0 : Int32)) ∧
(¬ (I (a0 + 9 + ix x1) 0) = (6 : Int32) → ¬ (I (a0 + 9 + ix x1) 0) = (7 : Int32) → ¬ (I (a0 + 9 + ix x1) 0) = (8 : Int32) → (w_X9_bit (x1 + (1 : Int32)) (fun r9 =>
Q r9)))))
set_option maxHeartbeats 4000000 in
set_option maxRecDepth 100000 in
theorem c_X2_followers (K : Kx) (hW : WFK K) (l : Launch) (a0 : Nat) (x1 : Int32) (k0 : (kG K a0).1 = 4) (I : MI) (J : MJ) (B : MR) (Q : Int32 →  Prop) (h : w_X2_followers a0 x1 I Q) : Con K l yX2_followers (wsT yX2_followers cX2_followers 2 (some .int)) rm_X2_followers [.ref a0, .int x1] (I, J, B) (va_Qi (S := Unit) (fun r _ => Q r) (fun u t => HP K (I, J, B) t.heap) (AA K)) := by
  refine Con.ofJ RX2 rfl (by decide) (Nat.le_of_ble_eq_true rfl) (fun m H0 w G => ?_)
  unfold w_X2_followers at h
  show Jg K m 2 H0 w 0 [(0, .ref a0), (1, .int x1)] [] (I, J, B)
  refine j_aload_n G 0 0 dX2_followers_0 rfl rfl ?_
  have kk1 : kG K (a0 + 1) = (24, 25) := wk_4_1 hW k0
  refine j_get G hW 3 0 4 (.ref (a0 + 1)) k0 (by decide) rfl (by decide) rfl lay_X2 fl_X2_11 rfl rfl dX2_followers_1 ?_
  refine j_iload_n G 1 1 dX2_followers_4 rfl rfl ?_
  obtain ⟨b2, h⟩ := h
  have kk3 : (kG K (a0 + 9 + ix x1)).1 = 2 := wk_a24 (i := x1) hW kk1 b2 (ad3 rfl)
  refine j_aald24 G hW (i := x1) (b := a0 + 9 + ix x1) kk1 b2 (ad3 rfl) dX2_followers_5 ?_
  refine j_get G hW 1 0 0 (.int (I (a0 + 9 + ix x1) 0)) kk3 (by decide) rfl (by decide) rfl lay_X0 fl_X2_59 rfl rfl dX2_followers_6 ?_
  by_cases c10 : (I (a0 + 9 + ix x1) 0) = (6 : Int32)
  · have h := h.1 (c10)
    refine j_tableIn G 38 dX2_followers_9 (by rw [c10]; decide) (by rw [c10]; decide) (by rw [c10] <;> rfl) (by decide) ?_
    refine j_aload_n G 0 0 dX2_followers_38 rfl rfl ?_
    refine j_get G hW 3 0 4 (.ref (a0 + 1)) k0 (by decide) rfl (by decide) rfl lay_X2 fl_X2_11 rfl rfl dX2_followers_39 ?_
    refine j_iload_n G 1 1 dX2_followers_42 rfl rfl ?_
    obtain ⟨b4, h⟩ := h
    refine j_aald24 G hW (i := x1) (b := a0 + 9 + ix x1) kk1 b4 (ad3 rfl) dX2_followers_43 ?_
    refine j_get G hW 1 4 0 (.int (I (a0 + 9 + ix x1) 4)) kk3 (by decide) rfl (by decide) rfl lay_X0 fl_X2_152 rfl rfl dX2_followers_44 ?_
    refine j_ci (rn_N G (n := 1) (As := [.int (I (a0 + 9 + ix x1) 4)]) (rest := []) (c_X9_bit K hW l (I (a0 + 9 + ix x1) 4) I J B _ h) (List.mem_of_getElem? (i := 0) rfl) st_X9_bit in_X9 co_X9_bit (by decide +kernel) rfl rfl (by decide) (by decide) rfl rfl (Nat.le_of_ble_eq_true rfl) dX2_followers_47) (fun r5 _ h => ?_)
    exact j_reti G () rfl dX2_followers_50 h rfl
  · skip
    by_cases c11 : (I (a0 + 9 + ix x1) 0) = (7 : Int32)
    · have h := h.2.1 (c11)
      refine j_tableIn G 51 dX2_followers_9 (by rw [c11]; decide) (by rw [c11]; decide) (by rw [c11] <;> rfl) (by decide) ?_
      refine j_aload_n G 0 0 dX2_followers_51 rfl rfl ?_
      refine j_get G hW 3 0 4 (.ref (a0 + 1)) k0 (by decide) rfl (by decide) rfl lay_X2 fl_X2_11 rfl rfl dX2_followers_52 ?_
      refine j_iload_n G 1 1 dX2_followers_55 rfl rfl ?_
      obtain ⟨b6, h⟩ := h
      refine j_aald24 G hW (i := x1) (b := a0 + 9 + ix x1) kk1 b6 (ad3 rfl) dX2_followers_56 ?_
      refine j_get G hW 1 4 0 (.int (I (a0 + 9 + ix x1) 4)) kk3 (by decide) rfl (by decide) rfl lay_X0 fl_X2_152 rfl rfl dX2_followers_57 ?_
      refine j_ci (rn_N G (n := 1) (As := [.int (I (a0 + 9 + ix x1) 4)]) (rest := []) (c_X9_bit K hW l (I (a0 + 9 + ix x1) 4) I J B _ h) (List.mem_of_getElem? (i := 0) rfl) st_X9_bit in_X9 co_X9_bit (by decide +kernel) rfl rfl (by decide) (by decide) rfl rfl (Nat.le_of_ble_eq_true rfl) dX2_followers_60) (fun r7 _ h => ?_)
      refine j_iload_n G 1 1 dX2_followers_63 rfl rfl ?_
      refine j_iconst G (1 : Int32) dX2_followers_64 (by decide) ?_
      refine j_iadd G dX2_followers_65 ?_
      refine j_ci (rn_N G (n := 1) (As := [.int (x1 + (1 : Int32))]) (rest := [.int r7]) (c_X9_bit K hW l (x1 + (1 : Int32)) I J B _ h) (List.mem_of_getElem? (i := 0) rfl) st_X9_bit in_X9 co_X9_bit (by decide +kernel) rfl rfl (by decide) (by decide) rfl rfl (Nat.le_of_ble_eq_true rfl) dX2_followers_66) (fun r8 _ h => ?_)
      refine j_ior G dX2_followers_69 ?_
      exact j_reti G () rfl dX2_followers_70 h rfl
    · skip
      by_cases c12 : (I (a0 + 9 + ix x1) 0) = (8 : Int32)
      · have h := h.2.2.1 (c12)
        refine j_tableIn G 36 dX2_followers_9 (by rw [c12]; decide) (by rw [c12]; decide) (by rw [c12] <;> rfl) (by decide) ?_
        refine j_iconst G (0 : Int32) dX2_followers_36 (by decide) ?_
        exact j_reti G () rfl dX2_followers_37 h rfl
      · skip
        have h := h.2.2.2 c10 c11 c12
        have nc10 := sw_ne (n := 6) rfl c10
        have nc11 := sw_ne (n := 7) rfl c11
        have nc12 := sw_ne (n := 8) rfl c12
        refine j_tableOut G 71 dX2_followers_9 (by omega) (by decide) ?_
        refine j_iload_n G 1 1 dX2_followers_71 rfl rfl ?_
        refine j_iconst G (1 : Int32) dX2_followers_72 (by decide) ?_
        refine j_iadd G dX2_followers_73 ?_
        refine j_ci (rn_N G (n := 1) (As := [.int (x1 + (1 : Int32))]) (rest := []) (c_X9_bit K hW l (x1 + (1 : Int32)) I J B _ h) (List.mem_of_getElem? (i := 0) rfl) st_X9_bit in_X9 co_X9_bit (by decide +kernel) rfl rfl (by decide) (by decide) rfl rfl (Nat.le_of_ble_eq_true rfl) dX2_followers_74) (fun r9 _ h => ?_)
        exact j_reti G () rfl dX2_followers_77 h rfl
abbrev rm_X2_findReach : Room := { frames := 2, cells := 0, slots := 0, locals := 41 }
def w_X2_findReach_l2 (a0 : Nat)  (ke27 : Int32 → MI → Prop) (Q : MI → Prop) (rec : Int32 → MI → Prop) (x1 : Int32) (I : MI) : Prop :=
(((I a0 1) ≤ x1 → ke27 x1 I) ∧
(¬ (I a0 1) ≤ x1 → (w_X2_followers a0 x1 I (fun r3 =>
(vp_in x1 24 ∧
(∀ I5, I5 = ui I (a0 + 8) (ix x1) r3 →
rec (x1 + 1) I5))))))
set_option maxHeartbeats 4000000 in
set_option maxRecDepth 100000 in
theorem m_X2_findReach_l2 {K : Kx} {l : Launch} {m : MethodId} {H0 : Heap} {Q : MI → Prop} {w : HW} {J : MJ} {B : MR} (G : Gd l rm_X2_findReach K m RX2 cX2_findReach 3 H0 none (va_Qv (S := MI) Q (fun u t => HP K (u, J, B) t.heap) (AA K)) w) (hW : WFK K) (a0 : Nat) (x1 : Int32) (ka0 : (kG K a0).1 = 4) (I : MI) (ke27 : Int32 → MI → Prop) (hke27 : ∀ (x1 : Int32) (I : MI), ke27 x1 I → Jg K m 3 H0 w 27 [(0, .ref a0)] [] (I, J, B)) (h : Lp2 (w_X2_findReach_l2 a0 ke27 Q) x1 I) : Jg K m 3 H0 w 2 [(0, .ref a0), (1, .int x1)] [] (I, J, B) := by
  obtain ⟨n, h⟩ := h
  refine lpN2_ind (P := (fun (x1 : Int32) (I : MI) => Jg K m 3 H0 w 2 [(0, .ref a0), (1, .int x1)] [] (I, J, B))) (fun rec hrec x1 I h => ?_) n x1 I h
  unfold w_X2_findReach_l2 at h
  refine j_iload_n G 1 1 dX2_findReach_2 rfl rfl ?_
  refine j_aload_n G 0 0 dX2_findReach_3 rfl rfl ?_
  refine j_get G hW 3 1 0 (.int (I a0 1)) ka0 (by decide) rfl (by decide) rfl lay_X2 fl_X2_43 rfl rfl dX2_findReach_4 ?_
  refine j_icmp_ge G 27 dX2_findReach_7 (by decide) (fun c1 => ?_) (fun c1 => ?_)
  · have h := h.1 c1
    exact Jg.sub [0] rfl (hke27 x1 I h)
  · have h := h.2 c1
    refine j_aload_n G 0 0 dX2_findReach_10 rfl rfl ?_
    have kk2 : kG K (a0 + 8) = (20, 24) := wk_4_8 hW ka0
    refine j_get G hW 3 11 11 (.ref (a0 + 8)) ka0 (by decide) rfl (by decide) rfl lay_X2 fl_X2_36 rfl rfl dX2_findReach_11 ?_
    refine j_iload_n G 1 1 dX2_findReach_14 rfl rfl ?_
    refine j_aload_n G 0 0 dX2_findReach_15 rfl rfl ?_
    refine j_iload_n G 1 1 dX2_findReach_16 rfl rfl ?_
    refine j_ci (rn_V G hW (ci := 3) (n := 1) (As := [.int x1]) (rest := [.int x1, .ref (a0 + 8)]) (c_X2_followers K hW l a0 x1 ka0 I J B _ h) ka0 (by decide) rfl ml_X2_215 im_X2_followers se_X2_followers in_X2 co_X2_followers rfl (by decide +kernel) rfl rfl (by decide) (by decide) rfl rfl (Nat.le_of_ble_eq_true rfl) dX2_findReach_17) (fun r3 _ h => ?_)
    obtain ⟨b4, h⟩ := h
    refine j_iast G hW kk2 b4 dX2_findReach_20 ?_
    refine j_mI (fun I5 eI5 => ?_)
    have h := h I5 eI5
    refine j_iinc G 1 (x1 + 1) [(1, .int (x1 + 1)), (0, .ref a0)] dX2_findReach_21 rfl rfl (by decide) rfl ?_
    refine j_goto G 2 dX2_findReach_24 (by decide) ?_
    exact Jg.sub [1, 0] rfl (hrec (x1 + 1) I5 h)
def w_X2_findReach_l39 (a0 : Nat) (x1 : Int32)  (ke81 : Int32 → MI → Prop) (Q : MI → Prop) (rec : Int32 → MI → Prop) (x2 : Int32) (I : MI) : Prop :=
(((I a0 1) ≤ x2 → ke81 x2 I) ∧
(¬ (I a0 1) ≤ x2 → (vp_in x2 24 ∧
(w_X9_isIn (I (a0 + 8) (ix x2)) x1 (fun r12 =>
((r12 = 0 → rec (x2 + 1) I) ∧
(¬ r12 = 0 → (vp_in x2 24 ∧
(vp_in x1 24 ∧
(vp_in x2 24 ∧
(∀ I17, I17 = ui I (a0 + 8) (ix x2) ((I (a0 + 8) (ix x2)) ||| (I (a0 + 8) (ix x1))) →
rec (x2 + 1) I17)))))))))))
set_option maxHeartbeats 4000000 in
set_option maxRecDepth 100000 in
theorem m_X2_findReach_l39 {K : Kx} {l : Launch} {m : MethodId} {H0 : Heap} {Q : MI → Prop} {w : HW} {J : MJ} {B : MR} (G : Gd l rm_X2_findReach K m RX2 cX2_findReach 3 H0 none (va_Qv (S := MI) Q (fun u t => HP K (u, J, B) t.heap) (AA K)) w) (hW : WFK K) (a0 : Nat) (x1 : Int32) (x2 : Int32) (ka0 : (kG K a0).1 = 4) (I : MI) (ke81 : Int32 → MI → Prop) (hke81 : ∀ (x2 : Int32) (I : MI), ke81 x2 I → Jg K m 3 H0 w 81 [(0, .ref a0), (1, .int x1)] [] (I, J, B)) (h : Lp2 (w_X2_findReach_l39 a0 x1 ke81 Q) x2 I) : Jg K m 3 H0 w 39 [(0, .ref a0), (1, .int x1), (2, .int x2)] [] (I, J, B) := by
  obtain ⟨n, h⟩ := h
  refine lpN2_ind (P := (fun (x2 : Int32) (I : MI) => Jg K m 3 H0 w 39 [(0, .ref a0), (1, .int x1), (2, .int x2)] [] (I, J, B))) (fun rec hrec x2 I h => ?_) n x2 I h
  unfold w_X2_findReach_l39 at h
  refine j_iload_n G 2 2 dX2_findReach_39 rfl rfl ?_
  refine j_aload_n G 0 0 dX2_findReach_40 rfl rfl ?_
  refine j_get G hW 3 1 0 (.int (I a0 1)) ka0 (by decide) rfl (by decide) rfl lay_X2 fl_X2_43 rfl rfl dX2_findReach_41 ?_
  refine j_icmp_ge G 81 dX2_findReach_44 (by decide) (fun c9 => ?_) (fun c9 => ?_)
  · have h := h.1 c9
    exact Jg.sub [0, 1] rfl (hke81 x2 I h)
  · have h := h.2 c9
    refine j_aload_n G 0 0 dX2_findReach_47 rfl rfl ?_
    have kk10 : kG K (a0 + 8) = (20, 24) := wk_4_8 hW ka0
    refine j_get G hW 3 11 11 (.ref (a0 + 8)) ka0 (by decide) rfl (by decide) rfl lay_X2 fl_X2_36 rfl rfl dX2_findReach_48 ?_
    refine j_iload_n G 2 2 dX2_findReach_51 rfl rfl ?_
    obtain ⟨b11, h⟩ := h
    refine j_iald G hW kk10 b11 dX2_findReach_52 ?_
    refine j_iload_n G 1 1 dX2_findReach_53 rfl rfl ?_
    refine j_ci (rn_N G (n := 2) (As := [.int (I (a0 + 8) (ix x2)), .int x1]) (rest := []) (c_X9_isIn K hW l (I (a0 + 8) (ix x2)) x1 I J B _ h) (List.mem_of_getElem? (i := 2) rfl) st_X9_isIn in_X9 co_X9_isIn (by decide +kernel) rfl rfl (by decide) (by decide) rfl rfl (Nat.le_of_ble_eq_true rfl) dX2_findReach_54) (fun r12 _ h => ?_)
    refine j_if_eq G 75 dX2_findReach_57 (by decide) (fun c13 => ?_) (fun c13 => ?_)
    · have h := h.1 c13
      refine j_iinc G 2 (x2 + 1) [(2, .int (x2 + 1)), (0, .ref a0), (1, .int x1)] dX2_findReach_75 rfl rfl (by decide) rfl ?_
      refine j_goto G 39 dX2_findReach_78 (by decide) ?_
      exact Jg.sub [1, 2, 0] rfl (hrec (x2 + 1) I h)
    · have h := h.2 c13
      refine j_aload_n G 0 0 dX2_findReach_60 rfl rfl ?_
      refine j_get G hW 3 11 11 (.ref (a0 + 8)) ka0 (by decide) rfl (by decide) rfl lay_X2 fl_X2_36 rfl rfl dX2_findReach_61 ?_
      refine j_iload_n G 2 2 dX2_findReach_64 rfl rfl ?_
      refine j_dup2 G rfl rfl dX2_findReach_65 ?_
      obtain ⟨b14, h⟩ := h
      refine j_iald G hW kk10 b14 dX2_findReach_66 ?_
      refine j_aload_n G 0 0 dX2_findReach_67 rfl rfl ?_
      refine j_get G hW 3 11 11 (.ref (a0 + 8)) ka0 (by decide) rfl (by decide) rfl lay_X2 fl_X2_36 rfl rfl dX2_findReach_68 ?_
      refine j_iload_n G 1 1 dX2_findReach_71 rfl rfl ?_
      obtain ⟨b15, h⟩ := h
      refine j_iald G hW kk10 b15 dX2_findReach_72 ?_
      refine j_ior G dX2_findReach_73 ?_
      obtain ⟨b16, h⟩ := h
      refine j_iast G hW kk10 b16 dX2_findReach_74 ?_
      refine j_mI (fun I17 eI17 => ?_)
      have h := h I17 eI17
      refine j_iinc G 2 (x2 + 1) [(2, .int (x2 + 1)), (0, .ref a0), (1, .int x1)] dX2_findReach_75 rfl rfl (by decide) rfl ?_
      refine j_goto G 39 dX2_findReach_78 (by decide) ?_
      exact Jg.sub [1, 2, 0] rfl (hrec (x2 + 1) I17 h)
def w_X2_findReach_l29 (a0 : Nat)   (Q : MI → Prop) (rec : Int32 → MI → Prop) (x1 : Int32) (I : MI) : Prop :=
(((I a0 1) ≤ x1 → Q I) ∧
(¬ (I a0 1) ≤ x1 → Lp2 (w_X2_findReach_l39 a0 x1 (fun x2_18 I19 => rec (x1 + 1) I19) Q) (0 : Int32) I))
set_option maxHeartbeats 4000000 in
set_option maxRecDepth 100000 in
theorem m_X2_findReach_l29 {K : Kx} {l : Launch} {m : MethodId} {H0 : Heap} {Q : MI → Prop} {w : HW} {J : MJ} {B : MR} (G : Gd l rm_X2_findReach K m RX2 cX2_findReach 3 H0 none (va_Qv (S := MI) Q (fun u t => HP K (u, J, B) t.heap) (AA K)) w) (hW : WFK K) (a0 : Nat) (x1 : Int32) (ka0 : (kG K a0).1 = 4) (I : MI)   (h : Lp2 (w_X2_findReach_l29 a0 Q) x1 I) : Jg K m 3 H0 w 29 [(0, .ref a0), (1, .int x1)] [] (I, J, B) := by
  obtain ⟨n, h⟩ := h
  refine lpN2_ind (P := (fun (x1 : Int32) (I : MI) => Jg K m 3 H0 w 29 [(0, .ref a0), (1, .int x1)] [] (I, J, B))) (fun rec hrec x1 I h => ?_) n x1 I h
  unfold w_X2_findReach_l29 at h
  refine j_iload_n G 1 1 dX2_findReach_29 rfl rfl ?_
  refine j_aload_n G 0 0 dX2_findReach_30 rfl rfl ?_
  refine j_get G hW 3 1 0 (.int (I a0 1)) ka0 (by decide) rfl (by decide) rfl lay_X2 fl_X2_43 rfl rfl dX2_findReach_31 ?_
  refine j_icmp_ge G 87 dX2_findReach_34 (by decide) (fun c8 => ?_) (fun c8 => ?_)
  · have h := h.1 c8
    exact j_retv G I dX2_findReach_87 h rfl
  · have h := h.2 c8
    refine j_iconst G (0 : Int32) dX2_findReach_37 (by decide) ?_
    refine j_istore_n G 2 [(2, .int (0 : Int32)), (0, .ref a0), (1, .int x1)] dX2_findReach_38 rfl (by decide) rfl ?_
    refine Jg.sub [1, 2, 0] rfl (m_X2_findReach_l39 G hW a0 x1 (0 : Int32) ka0 I _ ?_ h)
    intro x2_18 I19 h
    refine j_iinc G 1 (x1 + 1) [(1, .int (x1 + 1)), (0, .ref a0)] dX2_findReach_81 rfl rfl (by decide) rfl ?_
    refine j_goto G 29 dX2_findReach_84 (by decide) ?_
    exact Jg.sub [1, 0] rfl (hrec (x1 + 1) I19 h)
def w_X2_findReach (a0 : Nat) (I : MI) (Q : MI → Prop) : Prop :=
Lp2 (w_X2_findReach_l2 a0 (fun x1_6 I7 => Lp2 (w_X2_findReach_l29 a0 Q) (0 : Int32) I7) Q) (0 : Int32) I
set_option maxHeartbeats 4000000 in
set_option maxRecDepth 100000 in
theorem c_X2_findReach (K : Kx) (hW : WFK K) (l : Launch) (a0 : Nat) (k0 : (kG K a0).1 = 4) (I : MI) (J : MJ) (B : MR) (Q : MI → Prop) (h : w_X2_findReach a0 I Q) : Con K l yX2_findReach (wsT yX2_findReach cX2_findReach 3 none) rm_X2_findReach [.ref a0] (I, J, B) (va_Qv (S := MI) Q (fun u t => HP K (u, J, B) t.heap) (AA K)) := by
  refine Con.ofJ RX2 rfl (by decide) (Nat.le_of_ble_eq_true rfl) (fun m H0 w G => ?_)
  unfold w_X2_findReach at h
  show Jg K m 3 H0 w 0 [(0, .ref a0)] [] (I, J, B)
  refine j_iconst G (0 : Int32) dX2_findReach_0 (by decide) ?_
  refine j_istore_n G 1 [(1, .int (0 : Int32)), (0, .ref a0)] dX2_findReach_1 rfl (by decide) rfl ?_
  refine Jg.sub [1, 0] rfl (m_X2_findReach_l2 G hW a0 (0 : Int32) k0 I _ ?_ h)
  intro x1_6 I7 h
  refine j_iconst G (0 : Int32) dX2_findReach_27 (by decide) ?_
  refine j_istore_n G 1 [(1, .int (0 : Int32)), (0, .ref a0)] dX2_findReach_28 rfl (by decide) rfl ?_
  refine Jg.sub [1, 0] rfl (m_X2_findReach_l29 G hW a0 (0 : Int32) k0 I7 h)
abbrev rm_X2_roundOf : Room := { frames := 1, cells := 0, slots := 0, locals := 21 }
def w_X2_roundOf_l4 (a0 : Nat) (x1 : Int32) (I : MI)  (Q : Int32 →  Prop) (rec : Int32 → Int32 → Prop) (x2 : Int32) (x3 : Int32) : Prop :=
(((I a0 1) ≤ x3 → Q x2) ∧
(¬ (I a0 1) ≤ x3 → (vp_in x1 24 ∧
(w_X9_isIn (I (a0 + 8) (ix x1)) x3 (fun r4 =>
((r4 = 0 → rec x2 (x3 + 1)) ∧
(¬ r4 = 0 → (vp_in x3 24 ∧
(w_X9_isIn (I (a0 + 8) (ix x3)) x1 (fun r7 =>
((r7 = 0 → rec x2 (x3 + 1)) ∧
(¬ r7 = 0 → (w_X9_bit x3 (fun r9 =>
(∀ x2_10, x2_10 = x2 ||| r9 →
rec x2_10 (x3 + 1))))))))))))))))
set_option maxHeartbeats 4000000 in
set_option maxRecDepth 100000 in
theorem m_X2_roundOf_l4 {K : Kx} {l : Launch} {m : MethodId} {H0 : Heap} {Q : Int32 →  Prop} {w : HW} {I : MI} {J : MJ} {B : MR} (G : Gd l rm_X2_roundOf K m RX2 cX2_roundOf 4 H0 (some .int) (va_Qi (S := Unit) (fun r _ => Q r) (fun u t => HP K (I, J, B) t.heap) (AA K)) w) (hW : WFK K) (a0 : Nat) (x1 : Int32) (x2 : Int32) (x3 : Int32) (ka0 : (kG K a0).1 = 4)    (h : Lp2 (w_X2_roundOf_l4 a0 x1 I Q) x2 x3) : Jg K m 4 H0 w 4 [(0, .ref a0), (1, .int x1), (2, .int x2), (3, .int x3)] [] (I, J, B) := by
  obtain ⟨n, h⟩ := h
  refine lpN2_ind (P := (fun (x2 : Int32) (x3 : Int32) => Jg K m 4 H0 w 4 [(0, .ref a0), (1, .int x1), (2, .int x2), (3, .int x3)] [] (I, J, B))) (fun rec hrec x2 x3 h => ?_) n x2 x3 h
  unfold w_X2_roundOf_l4 at h
  refine j_iload_n G 3 3 dX2_roundOf_4 rfl rfl ?_
  refine j_aload_n G 0 0 dX2_roundOf_5 rfl rfl ?_
  refine j_get G hW 3 1 0 (.int (I a0 1)) ka0 (by decide) rfl (by decide) rfl lay_X2 fl_X2_43 rfl rfl dX2_roundOf_6 ?_
  refine j_icmp_ge G 51 dX2_roundOf_9 (by decide) (fun c1 => ?_) (fun c1 => ?_)
  · have h := h.1 c1
    refine j_iload_n G 2 2 dX2_roundOf_51 rfl rfl ?_
    exact j_reti G () rfl dX2_roundOf_52 h rfl
  · have h := h.2 c1
    refine j_aload_n G 0 0 dX2_roundOf_12 rfl rfl ?_
    have kk2 : kG K (a0 + 8) = (20, 24) := wk_4_8 hW ka0
    refine j_get G hW 3 11 11 (.ref (a0 + 8)) ka0 (by decide) rfl (by decide) rfl lay_X2 fl_X2_36 rfl rfl dX2_roundOf_13 ?_
    refine j_iload_n G 1 1 dX2_roundOf_16 rfl rfl ?_
    obtain ⟨b3, h⟩ := h
    refine j_iald G hW kk2 b3 dX2_roundOf_17 ?_
    refine j_iload_n G 3 3 dX2_roundOf_18 rfl rfl ?_
    refine j_ci (rn_N G (n := 2) (As := [.int (I (a0 + 8) (ix x1)), .int x3]) (rest := []) (c_X9_isIn K hW l (I (a0 + 8) (ix x1)) x3 I J B _ h) (List.mem_of_getElem? (i := 2) rfl) st_X9_isIn in_X9 co_X9_isIn (by decide +kernel) rfl rfl (by decide) (by decide) rfl rfl (Nat.le_of_ble_eq_true rfl) dX2_roundOf_19) (fun r4 _ h => ?_)
    refine j_if_eq G 45 dX2_roundOf_22 (by decide) (fun c5 => ?_) (fun c5 => ?_)
    · have h := h.1 c5
      refine j_iinc G 3 (x3 + 1) [(3, .int (x3 + 1)), (0, .ref a0), (1, .int x1), (2, .int x2)] dX2_roundOf_45 rfl rfl (by decide) rfl ?_
      refine j_goto G 4 dX2_roundOf_48 (by decide) ?_
      exact Jg.sub [1, 2, 3, 0] rfl (hrec x2 (x3 + 1) h)
    · have h := h.2 c5
      refine j_aload_n G 0 0 dX2_roundOf_25 rfl rfl ?_
      refine j_get G hW 3 11 11 (.ref (a0 + 8)) ka0 (by decide) rfl (by decide) rfl lay_X2 fl_X2_36 rfl rfl dX2_roundOf_26 ?_
      refine j_iload_n G 3 3 dX2_roundOf_29 rfl rfl ?_
      obtain ⟨b6, h⟩ := h
      refine j_iald G hW kk2 b6 dX2_roundOf_30 ?_
      refine j_iload_n G 1 1 dX2_roundOf_31 rfl rfl ?_
      refine j_ci (rn_N G (n := 2) (As := [.int (I (a0 + 8) (ix x3)), .int x1]) (rest := []) (c_X9_isIn K hW l (I (a0 + 8) (ix x3)) x1 I J B _ h) (List.mem_of_getElem? (i := 2) rfl) st_X9_isIn in_X9 co_X9_isIn (by decide +kernel) rfl rfl (by decide) (by decide) rfl rfl (Nat.le_of_ble_eq_true rfl) dX2_roundOf_32) (fun r7 _ h => ?_)
      refine j_if_eq G 45 dX2_roundOf_35 (by decide) (fun c8 => ?_) (fun c8 => ?_)
      · have h := h.1 c8
        refine j_iinc G 3 (x3 + 1) [(3, .int (x3 + 1)), (0, .ref a0), (1, .int x1), (2, .int x2)] dX2_roundOf_45 rfl rfl (by decide) rfl ?_
        refine j_goto G 4 dX2_roundOf_48 (by decide) ?_
        exact Jg.sub [1, 2, 3, 0] rfl (hrec x2 (x3 + 1) h)
      · have h := h.2 c8
        refine j_iload_n G 2 2 dX2_roundOf_38 rfl rfl ?_
        refine j_iload_n G 3 3 dX2_roundOf_39 rfl rfl ?_
        refine j_ci (rn_N G (n := 1) (As := [.int x3]) (rest := [.int x2]) (c_X9_bit K hW l x3 I J B _ h) (List.mem_of_getElem? (i := 0) rfl) st_X9_bit in_X9 co_X9_bit (by decide +kernel) rfl rfl (by decide) (by decide) rfl rfl (Nat.le_of_ble_eq_true rfl) dX2_roundOf_40) (fun r9 _ h => ?_)
        refine j_ior G dX2_roundOf_43 ?_
        refine j_nm (fun x2_10 ex2_10 => ?_)
        have h := h x2_10 ex2_10
        refine j_istore_n G 2 [(2, .int x2_10), (0, .ref a0), (1, .int x1), (3, .int x3)] dX2_roundOf_44 rfl (by decide) rfl ?_
        refine j_iinc G 3 (x3 + 1) [(3, .int (x3 + 1)), (2, .int x2_10), (0, .ref a0), (1, .int x1)] dX2_roundOf_45 rfl rfl (by decide) rfl ?_
        refine j_goto G 4 dX2_roundOf_48 (by decide) ?_
        exact Jg.sub [2, 3, 1, 0] rfl (hrec x2_10 (x3 + 1) h)
def w_X2_roundOf (a0 : Nat) (x1 : Int32) (I : MI) (Q : Int32 →  Prop) : Prop :=
Lp2 (w_X2_roundOf_l4 a0 x1 I Q) (0 : Int32) (0 : Int32)
set_option maxHeartbeats 4000000 in
set_option maxRecDepth 100000 in
theorem c_X2_roundOf (K : Kx) (hW : WFK K) (l : Launch) (a0 : Nat) (x1 : Int32) (k0 : (kG K a0).1 = 4) (I : MI) (J : MJ) (B : MR) (Q : Int32 →  Prop) (h : w_X2_roundOf a0 x1 I Q) : Con K l yX2_roundOf (wsT yX2_roundOf cX2_roundOf 4 (some .int)) rm_X2_roundOf [.ref a0, .int x1] (I, J, B) (va_Qi (S := Unit) (fun r _ => Q r) (fun u t => HP K (I, J, B) t.heap) (AA K)) := by
  refine Con.ofJ RX2 rfl (by decide) (Nat.le_of_ble_eq_true rfl) (fun m H0 w G => ?_)
  unfold w_X2_roundOf at h
  show Jg K m 4 H0 w 0 [(0, .ref a0), (1, .int x1)] [] (I, J, B)
  refine j_iconst G (0 : Int32) dX2_roundOf_0 (by decide) ?_
  refine j_istore_n G 2 [(2, .int (0 : Int32)), (0, .ref a0), (1, .int x1)] dX2_roundOf_1 rfl (by decide) rfl ?_
  refine j_iconst G (0 : Int32) dX2_roundOf_2 (by decide) ?_
  refine j_istore_n G 3 [(3, .int (0 : Int32)), (2, .int (0 : Int32)), (0, .ref a0), (1, .int x1)] dX2_roundOf_3 rfl (by decide) rfl ?_
  refine Jg.sub [2, 3, 1, 0] rfl (m_X2_roundOf_l4 G hW a0 x1 (0 : Int32) (0 : Int32) k0 h)
abbrev rm_X2_loses : Room := { frames := 2, cells := 0, slots := 0, locals := 45 }
def w_X2_loses (a0 : Nat) (x1 : Int32) (I : MI) (Q : Int32 →  Prop) : Prop :=
(w_X2_deedsAt a0 (0 : Int32) x1 I (fun r1 =>
(∀ x2_2, x2_2 = r1 - (1 : Int32) →
((0 ≤ x2_2 → (w_X2_kindOf a0 (0 : Int32) x1 x2_2 I (fun r4 =>
((r4 = (18 : Int32) → Q (1 : Int32)) ∧
(¬ r4 = (18 : Int32) → ((¬ r4 = (10 : Int32) → Q (0 : Int32)) ∧
(r4 = (10 : Int32) → Q (1 : Int32)))))))) ∧
(¬ 0 ≤ x2_2 → Q (0 : Int32))))))
set_option maxHeartbeats 4000000 in
set_option maxRecDepth 100000 in
theorem c_X2_loses (K : Kx) (hW : WFK K) (l : Launch) (a0 : Nat) (x1 : Int32) (k0 : (kG K a0).1 = 4) (I : MI) (J : MJ) (B : MR) (Q : Int32 →  Prop) (h : w_X2_loses a0 x1 I Q) : Con K l yX2_loses (wsT yX2_loses cX2_loses 4 (some .boolean)) rm_X2_loses [.ref a0, .int x1] (I, J, B) (va_Qi (S := Unit) (fun r _ => Q r) (fun u t => HP K (I, J, B) t.heap) (AA K)) := by
  refine Con.ofJ RX2 rfl (by decide) (Nat.le_of_ble_eq_true rfl) (fun m H0 w G => ?_)
  unfold w_X2_loses at h
  show Jg K m 4 H0 w 0 [(0, .ref a0), (1, .int x1)] [] (I, J, B)
  refine j_aload_n G 0 0 dX2_loses_0 rfl rfl ?_
  refine j_iconst G (0 : Int32) dX2_loses_1 (by decide) ?_
  refine j_iload_n G 1 1 dX2_loses_2 rfl rfl ?_
  refine j_ci (rn_V G hW (ci := 3) (n := 2) (As := [.int (0 : Int32), .int x1]) (rest := []) (c_X2_deedsAt K hW l a0 (0 : Int32) x1 k0 I J B _ h) k0 (by decide) rfl ml_X2_128 im_X2_deedsAt se_X2_deedsAt in_X2 co_X2_deedsAt rfl (by decide +kernel) rfl rfl (by decide) (by decide) rfl rfl (Nat.le_of_ble_eq_true rfl) dX2_loses_3) (fun r1 _ h => ?_)
  refine j_iconst G (1 : Int32) dX2_loses_6 (by decide) ?_
  refine j_isub G dX2_loses_7 ?_
  refine j_nm (fun x2_2 ex2_2 => ?_)
  have h := h x2_2 ex2_2
  refine j_istore_n G 2 [(2, .int x2_2), (0, .ref a0), (1, .int x1)] dX2_loses_8 rfl (by decide) rfl ?_
  refine j_iload_n G 0 2 dX2_loses_9 rfl rfl ?_
  refine j_if_ge G 15 dX2_loses_10 (by decide) (fun c3 => ?_) (fun c3 => ?_)
  · have h := h.1 c3
    refine j_aload_n G 1 0 dX2_loses_15 rfl rfl ?_
    refine j_iconst G (0 : Int32) dX2_loses_16 (by decide) ?_
    refine j_iload_n G 2 1 dX2_loses_17 rfl rfl ?_
    refine j_iload_n G 0 2 dX2_loses_18 rfl rfl ?_
    refine j_ci (rn_V G hW (ci := 3) (n := 3) (As := [.int (0 : Int32), .int x1, .int x2_2]) (rest := []) (c_X2_kindOf K hW l a0 (0 : Int32) x1 x2_2 k0 I J B _ h) k0 (by decide) rfl ml_X2_132 im_X2_kindOf se_X2_kindOf in_X2 co_X2_kindOf rfl (by decide +kernel) rfl rfl (by decide) (by decide) rfl rfl (Nat.le_of_ble_eq_true rfl) dX2_loses_19) (fun r4 _ h => ?_)
    refine j_istore_n G 3 [(3, .int r4), (2, .int x2_2), (0, .ref a0), (1, .int x1)] dX2_loses_22 rfl (by decide) rfl ?_
    refine j_iload_n G 0 3 dX2_loses_23 rfl rfl ?_
    refine j_bipush G (18 : Int32) dX2_loses_24 (by decide) ?_
    refine j_icmp_eq G 35 dX2_loses_26 (by decide) (fun c5 => ?_) (fun c5 => ?_)
    · have h := h.1 c5
      refine j_iconst G (1 : Int32) dX2_loses_35 (by decide) ?_
      refine j_goto G 40 dX2_loses_36 (by decide) ?_
      exact j_reti G () (by decide) dX2_loses_40 h rfl
    · have h := h.2 c5
      refine j_iload_n G 0 3 dX2_loses_29 rfl rfl ?_
      refine j_bipush G (10 : Int32) dX2_loses_30 (by decide) ?_
      refine j_icmp_ne G 39 dX2_loses_32 (by decide) (fun c6 => ?_) (fun c6 => ?_)
      · have h := h.1 c6
        refine j_iconst G (0 : Int32) dX2_loses_39 (by decide) ?_
        exact j_reti G () (by decide) dX2_loses_40 h rfl
      · have h := h.2 c6
        refine j_iconst G (1 : Int32) dX2_loses_35 (by decide) ?_
        refine j_goto G 40 dX2_loses_36 (by decide) ?_
        exact j_reti G () (by decide) dX2_loses_40 h rfl
  · have h := h.2 c3
    refine j_iconst G (0 : Int32) dX2_loses_13 (by decide) ?_
    exact j_reti G () (by decide) dX2_loses_14 h rfl
abbrev rm_X2_roundBits : Room := { frames := 3, cells := 0, slots := 0, locals := 68 }
def w_X2_roundBits_l20 (a0 : Nat) (x1 : Int32) (I : MI)  (Q : Int32 → MI → Prop) (rec : Int32 → Int32 → Prop) (x2 : Int32) (x3 : Int32) : Prop :=
(((I a0 1) ≤ x3 → Q x2 I) ∧
(¬ (I a0 1) ≤ x3 → (w_X2_roundOf a0 x3 I (fun r5 =>
((¬ x1 = 0 → (w_X2_loses a0 x3 I (fun r7 =>
((r7 = 0 → rec x2 (x3 + 1)) ∧
(¬ r7 = 0 → ((¬ x1 = (1 : Int32) → (w_X9_bit x3 (fun r10 =>
(∀ x2_11, x2_11 = x2 ||| (r5 &&& r10) →
rec x2_11 (x3 + 1))))) ∧
(x1 = (1 : Int32) → (∀ x2_12, x2_12 = x2 ||| r5 →
rec x2_12 (x3 + 1))))))))) ∧
(x1 = 0 → (∀ x2_13, x2_13 = x2 ||| r5 →
rec x2_13 (x3 + 1))))))))
set_option maxHeartbeats 4000000 in
set_option maxRecDepth 100000 in
theorem m_X2_roundBits_l20 {K : Kx} {l : Launch} {m : MethodId} {H0 : Heap} {Q : Int32 → MI → Prop} {w : HW} {J : MJ} {B : MR} (G : Gd l rm_X2_roundBits K m RX2 cX2_roundBits 5 H0 (some .int) (va_Qi (S := MI) Q (fun u t => HP K (u, J, B) t.heap) (AA K)) w) (hW : WFK K) (a0 : Nat) (x1 : Int32) (x2 : Int32) (x3 : Int32) (ka0 : (kG K a0).1 = 4) (I : MI)   (h : Lp2 (w_X2_roundBits_l20 a0 x1 I Q) x2 x3) : Jg K m 5 H0 w 20 [(0, .ref a0), (1, .int x1), (2, .int x2), (3, .int x3)] [] (I, J, B) := by
  obtain ⟨n, h⟩ := h
  refine lpN2_ind (P := (fun (x2 : Int32) (x3 : Int32) => Jg K m 5 H0 w 20 [(0, .ref a0), (1, .int x1), (2, .int x2), (3, .int x3)] [] (I, J, B))) (fun rec hrec x2 x3 h => ?_) n x2 x3 h
  unfold w_X2_roundBits_l20 at h
  refine j_iload_n G 3 3 dX2_roundBits_20 rfl rfl ?_
  refine j_aload_n G 0 0 dX2_roundBits_21 rfl rfl ?_
  refine j_get G hW 3 1 0 (.int (I a0 1)) ka0 (by decide) rfl (by decide) rfl lay_X2 fl_X2_43 rfl rfl dX2_roundBits_22 ?_
  refine j_icmp_ge G 81 dX2_roundBits_25 (by decide) (fun c4 => ?_) (fun c4 => ?_)
  · have h := h.1 c4
    refine j_iload_n G 2 2 dX2_roundBits_81 rfl rfl ?_
    exact j_reti G I rfl dX2_roundBits_82 h rfl
  · have h := h.2 c4
    refine j_aload_n G 0 0 dX2_roundBits_28 rfl rfl ?_
    refine j_iload_n G 3 3 dX2_roundBits_29 rfl rfl ?_
    refine j_ci (rn_V G hW (ci := 3) (n := 1) (As := [.int x3]) (rest := []) (c_X2_roundOf K hW l a0 x3 ka0 I J B _ h) ka0 (by decide) rfl ml_X2_209 im_X2_roundOf se_X2_roundOf in_X2 co_X2_roundOf rfl (by decide +kernel) rfl rfl (by decide) (by decide) rfl rfl (Nat.le_of_ble_eq_true rfl) dX2_roundBits_30) (fun r5 _ h => ?_)
    refine j_istore G [(4, .int r5), (0, .ref a0), (1, .int x1), (2, .int x2), (3, .int x3)] dX2_roundBits_33 (by decide) rfl ?_
    refine j_iload_n G 2 1 dX2_roundBits_35 rfl rfl ?_
    refine j_if_ne G 47 dX2_roundBits_36 (by decide) (fun c6 => ?_) (fun c6 => ?_)
    · have h := h.1 c6
      refine j_aload_n G 1 0 dX2_roundBits_47 rfl rfl ?_
      refine j_iload_n G 4 3 dX2_roundBits_48 rfl rfl ?_
      refine j_ci (rn_V G hW (ci := 3) (n := 1) (As := [.int x3]) (rest := []) (c_X2_loses K hW l a0 x3 ka0 I J B _ h) ka0 (by decide) rfl ml_X2_212 im_X2_loses se_X2_loses in_X2 co_X2_loses rfl (by decide +kernel) rfl rfl (by decide) (by decide) rfl rfl (Nat.le_of_ble_eq_true rfl) dX2_roundBits_49) (fun r7 _ h => ?_)
      refine j_if_eq G 75 dX2_roundBits_52 (by decide) (fun c8 => ?_) (fun c8 => ?_)
      · have h := h.1 c8
        refine j_iinc G 4 (x3 + 1) [(3, .int (x3 + 1)), (4, .int r5), (0, .ref a0), (1, .int x1), (2, .int x2)] dX2_roundBits_75 rfl rfl (by decide) rfl ?_
        refine j_goto G 20 dX2_roundBits_78 (by decide) ?_
        exact Jg.sub [2, 3, 4, 0] rfl (hrec x2 (x3 + 1) h)
      · have h := h.2 c8
        refine j_iload_n G 3 2 dX2_roundBits_55 rfl rfl ?_
        refine j_iload_n G 2 1 dX2_roundBits_56 rfl rfl ?_
        refine j_iconst G (1 : Int32) dX2_roundBits_57 (by decide) ?_
        refine j_icmp_ne G 66 dX2_roundBits_58 (by decide) (fun c9 => ?_) (fun c9 => ?_)
        · have h := h.1 c9
          refine j_iload G 0 dX2_roundBits_66 rfl ?_
          refine j_iload_n G 4 3 dX2_roundBits_68 rfl rfl ?_
          refine j_ci (rn_N G (n := 1) (As := [.int x3]) (rest := [.int r5, .int x2]) (c_X9_bit K hW l x3 I J B _ h) (List.mem_of_getElem? (i := 0) rfl) st_X9_bit in_X9 co_X9_bit (by decide +kernel) rfl rfl (by decide) (by decide) rfl rfl (Nat.le_of_ble_eq_true rfl) dX2_roundBits_69) (fun r10 _ h => ?_)
          refine j_iand G dX2_roundBits_72 ?_
          refine j_ior G dX2_roundBits_73 ?_
          refine j_nm (fun x2_11 ex2_11 => ?_)
          have h := h x2_11 ex2_11
          refine j_istore_n G 2 [(2, .int x2_11), (4, .int r5), (0, .ref a0), (1, .int x1), (3, .int x3)] dX2_roundBits_74 rfl (by decide) rfl ?_
          refine j_iinc G 4 (x3 + 1) [(3, .int (x3 + 1)), (2, .int x2_11), (4, .int r5), (0, .ref a0), (1, .int x1)] dX2_roundBits_75 rfl rfl (by decide) rfl ?_
          refine j_goto G 20 dX2_roundBits_78 (by decide) ?_
          exact Jg.sub [3, 4, 1, 0] rfl (hrec x2_11 (x3 + 1) h)
        · have h := h.2 c9
          refine j_iload G 0 dX2_roundBits_61 rfl ?_
          refine j_goto G 73 dX2_roundBits_63 (by decide) ?_
          refine j_ior G dX2_roundBits_73 ?_
          refine j_nm (fun x2_12 ex2_12 => ?_)
          have h := h x2_12 ex2_12
          refine j_istore_n G 2 [(2, .int x2_12), (4, .int r5), (0, .ref a0), (1, .int x1), (3, .int x3)] dX2_roundBits_74 rfl (by decide) rfl ?_
          refine j_iinc G 4 (x3 + 1) [(3, .int (x3 + 1)), (2, .int x2_12), (4, .int r5), (0, .ref a0), (1, .int x1)] dX2_roundBits_75 rfl rfl (by decide) rfl ?_
          refine j_goto G 20 dX2_roundBits_78 (by decide) ?_
          exact Jg.sub [3, 4, 1, 0] rfl (hrec x2_12 (x3 + 1) h)
    · have h := h.2 c6
      refine j_iload_n G 3 2 dX2_roundBits_39 rfl rfl ?_
      refine j_iload G 0 dX2_roundBits_40 rfl ?_
      refine j_ior G dX2_roundBits_42 ?_
      refine j_nm (fun x2_13 ex2_13 => ?_)
      have h := h x2_13 ex2_13
      refine j_istore_n G 2 [(2, .int x2_13), (4, .int r5), (0, .ref a0), (1, .int x1), (3, .int x3)] dX2_roundBits_43 rfl (by decide) rfl ?_
      refine j_goto G 75 dX2_roundBits_44 (by decide) ?_
      refine j_iinc G 4 (x3 + 1) [(3, .int (x3 + 1)), (2, .int x2_13), (4, .int r5), (0, .ref a0), (1, .int x1)] dX2_roundBits_75 rfl rfl (by decide) rfl ?_
      refine j_goto G 20 dX2_roundBits_78 (by decide) ?_
      exact Jg.sub [3, 4, 1, 0] rfl (hrec x2_13 (x3 + 1) h)
def w_X2_roundBits (a0 : Nat) (x1 : Int32) (I : MI) (Q : Int32 → MI → Prop) : Prop :=
((x1 < 0 → Q (-2 : Int32) I) ∧
(¬ x1 < 0 → ((x1 ≤ (2 : Int32) → (w_X2_findReach a0 I (fun I3 =>
Lp2 (w_X2_roundBits_l20 a0 x1 I3 Q) (0 : Int32) (0 : Int32)))) ∧
(¬ x1 ≤ (2 : Int32) → Q (-2 : Int32) I))))
set_option maxHeartbeats 4000000 in
set_option maxRecDepth 100000 in
theorem c_X2_roundBits (K : Kx) (hW : WFK K) (l : Launch) (a0 : Nat) (x1 : Int32) (k0 : (kG K a0).1 = 4) (I : MI) (J : MJ) (B : MR) (Q : Int32 → MI → Prop) (h : w_X2_roundBits a0 x1 I Q) : Con K l yX2_roundBits (wsT yX2_roundBits cX2_roundBits 5 (some .int)) rm_X2_roundBits [.ref a0, .int x1] (I, J, B) (va_Qi (S := MI) Q (fun u t => HP K (u, J, B) t.heap) (AA K)) := by
  refine Con.ofJ RX2 rfl (by decide) (Nat.le_of_ble_eq_true rfl) (fun m H0 w G => ?_)
  unfold w_X2_roundBits at h
  show Jg K m 5 H0 w 0 [(0, .ref a0), (1, .int x1)] [] (I, J, B)
  refine j_iload_n G 1 1 dX2_roundBits_0 rfl rfl ?_
  refine j_if_lt G 9 dX2_roundBits_1 (by decide) (fun c1 => ?_) (fun c1 => ?_)
  · have h := h.1 c1
    refine j_bipush G (-2 : Int32) dX2_roundBits_9 (by decide) ?_
    exact j_reti G I rfl dX2_roundBits_11 h rfl
  · have h := h.2 c1
    refine j_iload_n G 1 1 dX2_roundBits_4 rfl rfl ?_
    refine j_iconst G (2 : Int32) dX2_roundBits_5 (by decide) ?_
    refine j_icmp_le G 12 dX2_roundBits_6 (by decide) (fun c2 => ?_) (fun c2 => ?_)
    · have h := h.1 c2
      refine j_aload_n G 0 0 dX2_roundBits_12 rfl rfl ?_
      refine j_cv (rn_V G hW (ci := 3) (n := 0) (As := []) (rest := []) (c_X2_findReach K hW l a0 k0 I J B _ h) k0 (by decide) rfl ml_X2_206 im_X2_findReach se_X2_findReach in_X2 co_X2_findReach rfl (by decide +kernel) rfl rfl (by decide) (by decide) rfl rfl (Nat.le_of_ble_eq_true rfl) dX2_roundBits_13) (fun I3 h => ?_)
      refine j_iconst G (0 : Int32) dX2_roundBits_16 (by decide) ?_
      refine j_istore_n G 2 [(2, .int (0 : Int32)), (0, .ref a0), (1, .int x1)] dX2_roundBits_17 rfl (by decide) rfl ?_
      refine j_iconst G (0 : Int32) dX2_roundBits_18 (by decide) ?_
      refine j_istore_n G 3 [(3, .int (0 : Int32)), (2, .int (0 : Int32)), (0, .ref a0), (1, .int x1)] dX2_roundBits_19 rfl (by decide) rfl ?_
      refine Jg.sub [2, 3, 1, 0] rfl (m_X2_roundBits_l20 G hW a0 x1 (0 : Int32) (0 : Int32) k0 I3 h)
    · have h := h.2 c2
      refine j_bipush G (-2 : Int32) dX2_roundBits_9 (by decide) ?_
      exact j_reti G I rfl dX2_roundBits_11 h rfl
