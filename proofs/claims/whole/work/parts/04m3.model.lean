abbrev rm_X10_least : Room := { frames := 11, cells := 0, slots := 0, locals := 267 }
def w_X10_least_l33 (a0 : Nat) (x1 : Int32) (x2 : Int32) (x3 : Int32)   (Q : Int32 → MI → Prop) (rec : Int32 → MI → Prop) (x4 : Int32) (I : MI) : Prop :=
(((6 : Int32) < x4 → Q (-1 : Int32) I) ∧
(¬ (6 : Int32) < x4 → (w_X10_timeBy a0 x1 x4 I (fun r7 I8 =>
((x2 = 0 → (((I8 (a0 + 1) (ix (687 : Int32))) = (2 : Int32) → rec (x4 + 1) I8) ∧
(¬ (I8 (a0 + 1) (ix (687 : Int32))) = (2 : Int32) → Q x4 I8))) ∧
(¬ x2 = 0 → ((¬ r7 = x3 → rec (x4 + 1) I8) ∧
(r7 = x3 → Q x4 I8))))))))
set_option maxHeartbeats 4000000 in
set_option maxRecDepth 100000 in
theorem m_X10_least_l33 {K : Kx} {l : Launch} {m : MethodId} {H0 : Heap} {Q : Int32 → MI → Prop} {w : HW} {J : MJ} {B : MR} (G : Gd l rm_X10_least K m RX10 cX10_least 6 H0 (some .int) (va_Qi (S := MI) Q (fun u t => HP K (u, J, B) t.heap) (AA K)) w) (hW : WFK K) (a0 : Nat) (x1 : Int32) (x2 : Int32) (x3 : Int32) (x4 : Int32) (ka0 : (kG K a0).1 = 12) (I : MI)   (h : Lp2 (w_X10_least_l33 a0 x1 x2 x3 Q) x4 I) : Jg K m 6 H0 w 33 [(0, .ref a0), (1, .int x1), (2, .int x2), (3, .int x3), (4, .int x4)] [] (I, J, B) := by
  obtain ⟨n, h⟩ := h
  refine lpN2_ind (P := (fun (x4 : Int32) (I : MI) => Jg K m 6 H0 w 33 [(0, .ref a0), (1, .int x1), (2, .int x2), (3, .int x3), (4, .int x4)] [] (I, J, B))) (fun rec hrec x4 I h => ?_) n x4 I h
  unfold w_X10_least_l33 at h
  refine j_iload G 4 dX10_least_33 rfl ?_
  refine j_bipush G (6 : Int32) dX10_least_35 (by decide) ?_
  refine j_icmp_gt G 83 dX10_least_37 (by decide) (fun c6 => ?_) (fun c6 => ?_)
  · have h := h.1 c6
    refine j_iconst G (-1 : Int32) dX10_least_83 (by decide) ?_
    exact j_reti G I rfl dX10_least_84 h rfl
  · have h := h.2 c6
    refine j_aload_n G 0 0 dX10_least_40 rfl rfl ?_
    refine j_iload_n G 1 1 dX10_least_41 rfl rfl ?_
    refine j_iload G 4 dX10_least_42 rfl ?_
    refine j_ci (rn_V G hW (ci := 11) (n := 2) (As := [.int x1, .int x4]) (rest := []) (c_X10_timeBy K hW l a0 x1 x4 ka0 I J B _ h) ka0 (by decide) rfl ml_X10_199 im_X10_timeBy se_X10_timeBy in_X10 co_X10_timeBy rfl (by decide +kernel) rfl rfl (by decide) (by decide) rfl rfl (Nat.le_of_ble_eq_true rfl) dX10_least_44) (fun r7 I8 h => ?_)
    refine j_istore G [(5, .int r7), (0, .ref a0), (1, .int x1), (2, .int x2), (3, .int x3), (4, .int x4)] dX10_least_47 (by decide) rfl ?_
    refine j_iload_n G 3 2 dX10_least_49 rfl rfl ?_
    refine j_if_eq G 62 dX10_least_50 (by decide) (fun c9 => ?_) (fun c9 => ?_)
    · have h := h.1 c9
      refine j_aload_n G 1 0 dX10_least_62 rfl rfl ?_
      have kk10 : kG K (a0 + 1) = (20, 4905) := wk_12_1 hW ka0
      refine j_get G hW 11 0 4 (.ref (a0 + 1)) ka0 (by decide) rfl (by decide) rfl lay_X10 fl_X10_7 rfl rfl dX10_least_63 ?_
      refine j_sipush G (687 : Int32) dX10_least_66 (by decide) ?_
      refine j_iald G hW kk10 (vpc rfl) dX10_least_69 ?_
      refine j_iconst G (2 : Int32) dX10_least_70 (by decide) ?_
      refine j_icmp_eq G 77 dX10_least_71 (by decide) (fun c11 => ?_) (fun c11 => ?_)
      · have h := h.1 c11
        refine j_iinc G 5 (x4 + 1) [(4, .int (x4 + 1)), (5, .int r7), (0, .ref a0), (1, .int x1), (2, .int x2), (3, .int x3)] dX10_least_77 rfl rfl (by decide) rfl ?_
        refine j_goto G 33 dX10_least_80 (by decide) ?_
        exact Jg.sub [2, 3, 4, 5, 0] rfl (hrec (x4 + 1) I8 h)
      · have h := h.2 c11
        refine j_iload G 5 dX10_least_74 rfl ?_
        exact j_reti G I8 rfl dX10_least_76 h rfl
    · have h := h.2 c9
      refine j_iload G 0 dX10_least_53 rfl ?_
      refine j_iload_n G 4 3 dX10_least_55 rfl rfl ?_
      refine j_icmp_ne G 77 dX10_least_56 (by decide) (fun c12 => ?_) (fun c12 => ?_)
      · have h := h.1 c12
        refine j_iinc G 5 (x4 + 1) [(4, .int (x4 + 1)), (5, .int r7), (0, .ref a0), (1, .int x1), (2, .int x2), (3, .int x3)] dX10_least_77 rfl rfl (by decide) rfl ?_
        refine j_goto G 33 dX10_least_80 (by decide) ?_
        exact Jg.sub [2, 3, 4, 5, 0] rfl (hrec (x4 + 1) I8 h)
      · have h := h.2 c12
        refine j_goto G 74 dX10_least_59 (by decide) ?_
        refine j_iload G 5 dX10_least_74 rfl ?_
        exact j_reti G I8 rfl dX10_least_76 h rfl
def w_X10_least (a0 : Nat) (x1 : Int32) (x2 : Int32) (I : MI) (Q : Int32 → MI → Prop) : Prop :=
(w_X10_isIn x1 (0 : Int32) (5 : Int32) (fun r1 =>
((¬ r1 = 0 → (w_X10_timeBy a0 x1 (6 : Int32) I (fun r3 I4 =>
((x2 = 0 → Lp2 (w_X10_least_l33 a0 x1 x2 r3 Q) (1 : Int32) I4) ∧
(¬ x2 = 0 → ((¬ r3 = (-1 : Int32) → Lp2 (w_X10_least_l33 a0 x1 x2 r3 Q) (1 : Int32) I4) ∧
(r3 = (-1 : Int32) → Q (-1 : Int32) I4))))))) ∧
(r1 = 0 → Q (-1 : Int32) I))))
set_option maxHeartbeats 4000000 in
set_option maxRecDepth 100000 in
theorem c_X10_least (K : Kx) (hW : WFK K) (l : Launch) (a0 : Nat) (x1 : Int32) (x2 : Int32) (k0 : (kG K a0).1 = 12) (I : MI) (J : MJ) (B : MR) (Q : Int32 → MI → Prop) (h : w_X10_least a0 x1 x2 I Q) : Con K l yX10_least (wsT yX10_least cX10_least 6 (some .int)) rm_X10_least [.ref a0, .int x1, .int x2] (I, J, B) (va_Qi (S := MI) Q (fun u t => HP K (u, J, B) t.heap) (AA K)) := by
  refine Con.ofJ RX10 rfl (by decide) (Nat.le_of_ble_eq_true rfl) (fun m H0 w G => ?_)
  unfold w_X10_least at h
  show Jg K m 6 H0 w 0 [(0, .ref a0), (1, .int x1), (2, .int x2)] [] (I, J, B)
  refine j_iload_n G 1 1 dX10_least_0 rfl rfl ?_
  refine j_iconst G (0 : Int32) dX10_least_1 (by decide) ?_
  refine j_iconst G (5 : Int32) dX10_least_2 (by decide) ?_
  refine j_ci (rn_S G (n := 3) (As := [.int x1, .int (0 : Int32), .int (5 : Int32)]) (rest := []) (c_X10_isIn K hW l x1 (0 : Int32) (5 : Int32) I J B _ h) ml_X10_190 st_X10_isIn in_X10 co_X10_isIn (by decide +kernel) rfl rfl (by decide) (by decide) rfl rfl (Nat.le_of_ble_eq_true rfl) dX10_least_3) (fun r1 _ h => ?_)
  refine j_if_ne G 11 dX10_least_6 (by decide) (fun c2 => ?_) (fun c2 => ?_)
  · have h := h.1 c2
    refine j_aload_n G 0 0 dX10_least_11 rfl rfl ?_
    refine j_iload_n G 1 1 dX10_least_12 rfl rfl ?_
    refine j_bipush G (6 : Int32) dX10_least_13 (by decide) ?_
    refine j_ci (rn_V G hW (ci := 11) (n := 2) (As := [.int x1, .int (6 : Int32)]) (rest := []) (c_X10_timeBy K hW l a0 x1 (6 : Int32) k0 I J B _ h) k0 (by decide) rfl ml_X10_199 im_X10_timeBy se_X10_timeBy in_X10 co_X10_timeBy rfl (by decide +kernel) rfl rfl (by decide) (by decide) rfl rfl (Nat.le_of_ble_eq_true rfl) dX10_least_15) (fun r3 I4 h => ?_)
    refine j_istore_n G 3 [(3, .int r3), (0, .ref a0), (1, .int x1), (2, .int x2)] dX10_least_18 rfl (by decide) rfl ?_
    refine j_iload_n G 3 2 dX10_least_19 rfl rfl ?_
    refine j_if_eq G 30 dX10_least_20 (by decide) (fun c5 => ?_) (fun c5 => ?_)
    · have h := h.1 c5
      refine j_iconst G (1 : Int32) dX10_least_30 (by decide) ?_
      refine j_istore G [(4, .int (1 : Int32)), (3, .int r3), (0, .ref a0), (1, .int x1), (2, .int x2)] dX10_least_31 (by decide) rfl ?_
      refine Jg.sub [2, 3, 4, 1, 0] rfl (m_X10_least_l33 G hW a0 x1 x2 r3 (1 : Int32) k0 I4 h)
    · have h := h.2 c5
      refine j_iload_n G 0 3 dX10_least_23 rfl rfl ?_
      refine j_iconst G (-1 : Int32) dX10_least_24 (by decide) ?_
      refine j_icmp_ne G 30 dX10_least_25 (by decide) (fun c13 => ?_) (fun c13 => ?_)
      · have h := h.1 c13
        refine j_iconst G (1 : Int32) dX10_least_30 (by decide) ?_
        refine j_istore G [(4, .int (1 : Int32)), (3, .int r3), (0, .ref a0), (1, .int x1), (2, .int x2)] dX10_least_31 (by decide) rfl ?_
        refine Jg.sub [2, 3, 4, 1, 0] rfl (m_X10_least_l33 G hW a0 x1 x2 r3 (1 : Int32) k0 I4 h)
      · have h := h.2 c13
        refine j_iconst G (-1 : Int32) dX10_least_28 (by decide) ?_
        exact j_reti G I4 rfl dX10_least_29 h rfl
  · have h := h.2 c2
    refine j_iconst G (-1 : Int32) dX10_least_9 (by decide) ?_
    exact j_reti G I rfl dX10_least_10 h rfl
abbrev rm_X10_safe : Room := { frames := 10, cells := 0, slots := 0, locals := 245 }
def w_X10_safe_l14 (a0 : Nat) (x1 : Int32)  (ke37 : Int32 → MI → Prop) (Q : Int32 → MI → Prop) (rec : Int32 → MI → Prop) (x2 : Int32) (I : MI) : Prop :=
(((6 : Int32) ≤ x2 → ke37 x2 I) ∧
(¬ (6 : Int32) ≤ x2 → (vp_in ((688 : Int32) + x2) 4905 ∧
(∀ I6, I6 = ui I (a0 + 1) (ix ((688 : Int32) + x2)) x1 →
rec (x2 + 1) I6))))
set_option maxHeartbeats 4000000 in
set_option maxRecDepth 100000 in
theorem m_X10_safe_l14 {K : Kx} {l : Launch} {m : MethodId} {H0 : Heap} {Q : Int32 → MI → Prop} {w : HW} {J : MJ} {B : MR} (G : Gd l rm_X10_safe K m RX10 cX10_safe 3 H0 (some .int) (va_Qi (S := MI) Q (fun u t => HP K (u, J, B) t.heap) (AA K)) w) (hW : WFK K) (a0 : Nat) (x1 : Int32) (x2 : Int32) (ka0 : (kG K a0).1 = 12) (I : MI) (ke37 : Int32 → MI → Prop) (hke37 : ∀ (x2 : Int32) (I : MI), ke37 x2 I → Jg K m 3 H0 w 37 [(0, .ref a0), (1, .int x1)] [] (I, J, B)) (h : Lp2 (w_X10_safe_l14 a0 x1 ke37 Q) x2 I) : Jg K m 3 H0 w 14 [(0, .ref a0), (1, .int x1), (2, .int x2)] [] (I, J, B) := by
  obtain ⟨n, h⟩ := h
  refine lpN2_ind (P := (fun (x2 : Int32) (I : MI) => Jg K m 3 H0 w 14 [(0, .ref a0), (1, .int x1), (2, .int x2)] [] (I, J, B))) (fun rec hrec x2 I h => ?_) n x2 I h
  unfold w_X10_safe_l14 at h
  refine j_iload_n G 2 2 dX10_safe_14 rfl rfl ?_
  refine j_bipush G (6 : Int32) dX10_safe_15 (by decide) ?_
  refine j_icmp_ge G 37 dX10_safe_17 (by decide) (fun c3 => ?_) (fun c3 => ?_)
  · have h := h.1 c3
    exact Jg.sub [0, 1] rfl (hke37 x2 I h)
  · have h := h.2 c3
    refine j_aload_n G 0 0 dX10_safe_20 rfl rfl ?_
    have kk4 : kG K (a0 + 1) = (20, 4905) := wk_12_1 hW ka0
    refine j_get G hW 11 0 4 (.ref (a0 + 1)) ka0 (by decide) rfl (by decide) rfl lay_X10 fl_X10_7 rfl rfl dX10_safe_21 ?_
    refine j_sipush G (688 : Int32) dX10_safe_24 (by decide) ?_
    refine j_iload_n G 2 2 dX10_safe_27 rfl rfl ?_
    refine j_iadd G dX10_safe_28 ?_
    refine j_iload_n G 1 1 dX10_safe_29 rfl rfl ?_
    obtain ⟨b5, h⟩ := h
    refine j_iast G hW kk4 b5 dX10_safe_30 ?_
    refine j_mI (fun I6 eI6 => ?_)
    have h := h I6 eI6
    refine j_iinc G 2 (x2 + 1) [(2, .int (x2 + 1)), (0, .ref a0), (1, .int x1)] dX10_safe_31 rfl rfl (by decide) rfl ?_
    refine j_goto G 14 dX10_safe_34 (by decide) ?_
    exact Jg.sub [1, 2, 0] rfl (hrec (x2 + 1) I6 h)
def w_X10_safe_l2 (a0 : Nat)   (Q : Int32 → MI → Prop) (rec : Int32 → MI → Prop) (x1 : Int32) (I : MI) : Prop :=
(((6 : Int32) < x1 → Q (-1 : Int32) I) ∧
(¬ (6 : Int32) < x1 → (w_X10_tries a0 I (fun I2 =>
Lp2 (w_X10_safe_l14 a0 x1 (fun x2_7 I8 => (w_X10_ending a0 I8 (fun r9 I10 =>
(((I10 (a0 + 1) (ix (687 : Int32))) = (2 : Int32) → rec (x1 + 1) I10) ∧
(¬ (I10 (a0 + 1) (ix (687 : Int32))) = (2 : Int32) → Q x1 I10))))) Q) (0 : Int32) I2))))
set_option maxHeartbeats 4000000 in
set_option maxRecDepth 100000 in
theorem m_X10_safe_l2 {K : Kx} {l : Launch} {m : MethodId} {H0 : Heap} {Q : Int32 → MI → Prop} {w : HW} {J : MJ} {B : MR} (G : Gd l rm_X10_safe K m RX10 cX10_safe 3 H0 (some .int) (va_Qi (S := MI) Q (fun u t => HP K (u, J, B) t.heap) (AA K)) w) (hW : WFK K) (a0 : Nat) (x1 : Int32) (ka0 : (kG K a0).1 = 12) (I : MI)   (h : Lp2 (w_X10_safe_l2 a0 Q) x1 I) : Jg K m 3 H0 w 2 [(0, .ref a0), (1, .int x1)] [] (I, J, B) := by
  obtain ⟨n, h⟩ := h
  refine lpN2_ind (P := (fun (x1 : Int32) (I : MI) => Jg K m 3 H0 w 2 [(0, .ref a0), (1, .int x1)] [] (I, J, B))) (fun rec hrec x1 I h => ?_) n x1 I h
  unfold w_X10_safe_l2 at h
  refine j_iload_n G 1 1 dX10_safe_2 rfl rfl ?_
  refine j_bipush G (6 : Int32) dX10_safe_3 (by decide) ?_
  refine j_icmp_gt G 62 dX10_safe_5 (by decide) (fun c1 => ?_) (fun c1 => ?_)
  · have h := h.1 c1
    refine j_iconst G (-1 : Int32) dX10_safe_62 (by decide) ?_
    exact j_reti G I rfl dX10_safe_63 h rfl
  · have h := h.2 c1
    refine j_aload_n G 0 0 dX10_safe_8 rfl rfl ?_
    refine j_cv (rn_V G hW (ci := 11) (n := 0) (As := []) (rest := []) (c_X10_tries K hW l a0 ka0 I J B _ h) ka0 (by decide) rfl ml_X10_183 im_X10_tries se_X10_tries in_X10 co_X10_tries rfl (by decide +kernel) rfl rfl (by decide) (by decide) rfl rfl (Nat.le_of_ble_eq_true rfl) dX10_safe_9) (fun I2 h => ?_)
    refine j_iconst G (0 : Int32) dX10_safe_12 (by decide) ?_
    refine j_istore_n G 2 [(2, .int (0 : Int32)), (0, .ref a0), (1, .int x1)] dX10_safe_13 rfl (by decide) rfl ?_
    refine Jg.sub [1, 2, 0] rfl (m_X10_safe_l14 G hW a0 x1 (0 : Int32) ka0 I2 _ ?_ h)
    intro x2_7 I8 h
    refine j_aload_n G 0 0 dX10_safe_37 rfl rfl ?_
    refine j_ci (rn_V G hW (ci := 11) (n := 0) (As := []) (rest := []) (c_X10_ending K hW l a0 ka0 I8 J B _ h) ka0 (by decide) rfl ml_X10_186 im_X10_ending se_X10_ending in_X10 co_X10_ending rfl (by decide +kernel) rfl rfl (by decide) (by decide) rfl rfl (Nat.le_of_ble_eq_true rfl) dX10_safe_38) (fun r9 I10 h => ?_)
    refine j_istore_n G 2 [(2, .int r9), (0, .ref a0), (1, .int x1)] dX10_safe_41 rfl (by decide) rfl ?_
    refine j_aload_n G 1 0 dX10_safe_42 rfl rfl ?_
    have kk11 : kG K (a0 + 1) = (20, 4905) := wk_12_1 hW ka0
    refine j_get G hW 11 0 4 (.ref (a0 + 1)) ka0 (by decide) rfl (by decide) rfl lay_X10 fl_X10_7 rfl rfl dX10_safe_43 ?_
    refine j_sipush G (687 : Int32) dX10_safe_46 (by decide) ?_
    refine j_iald G hW kk11 (vpc rfl) dX10_safe_49 ?_
    refine j_iconst G (2 : Int32) dX10_safe_50 (by decide) ?_
    refine j_icmp_eq G 56 dX10_safe_51 (by decide) (fun c12 => ?_) (fun c12 => ?_)
    · have h := h.1 c12
      refine j_iinc G 2 (x1 + 1) [(1, .int (x1 + 1)), (2, .int r9), (0, .ref a0)] dX10_safe_56 rfl rfl (by decide) rfl ?_
      refine j_goto G 2 dX10_safe_59 (by decide) ?_
      exact Jg.sub [2, 0] rfl (hrec (x1 + 1) I10 h)
    · have h := h.2 c12
      refine j_iload_n G 2 1 dX10_safe_54 rfl rfl ?_
      exact j_reti G I10 rfl dX10_safe_55 h rfl
def w_X10_safe (a0 : Nat) (I : MI) (Q : Int32 → MI → Prop) : Prop :=
Lp2 (w_X10_safe_l2 a0 Q) (1 : Int32) I
set_option maxHeartbeats 4000000 in
set_option maxRecDepth 100000 in
theorem c_X10_safe (K : Kx) (hW : WFK K) (l : Launch) (a0 : Nat) (k0 : (kG K a0).1 = 12) (I : MI) (J : MJ) (B : MR) (Q : Int32 → MI → Prop) (h : w_X10_safe a0 I Q) : Con K l yX10_safe (wsT yX10_safe cX10_safe 3 (some .int)) rm_X10_safe [.ref a0] (I, J, B) (va_Qi (S := MI) Q (fun u t => HP K (u, J, B) t.heap) (AA K)) := by
  refine Con.ofJ RX10 rfl (by decide) (Nat.le_of_ble_eq_true rfl) (fun m H0 w G => ?_)
  unfold w_X10_safe at h
  show Jg K m 3 H0 w 0 [(0, .ref a0)] [] (I, J, B)
  refine j_iconst G (1 : Int32) dX10_safe_0 (by decide) ?_
  refine j_istore_n G 1 [(1, .int (1 : Int32)), (0, .ref a0)] dX10_safe_1 rfl (by decide) rfl ?_
  refine Jg.sub [1, 0] rfl (m_X10_safe_l2 G hW a0 (1 : Int32) k0 I h)
abbrev rm_X10_ahead : Room := { frames := 9, cells := 0, slots := 0, locals := 224 }
def w_X10_ahead (a0 : Nat) (x1 : Int32) (x2 : Int32) (I : MI) (Q : Int32 → MI → Prop) : Prop :=
(w_X10_isIn x1 (0 : Int32) (60 : Int32) (fun r1 =>
((r1 = 0 → Q (-1 : Int32) I) ∧
(¬ r1 = 0 → (w_X10_isIn x2 (0 : Int32) (11 : Int32) (fun r3 =>
((¬ r3 = 0 → (w_X10_copies a0 (0 : Int32) (516 : Int32) I (fun I5 =>
(w_X10_goes a0 (516 : Int32) x1 I5 (fun r6 I7 =>
(w_X10_counts a0 (516 : Int32) x2 I7 (fun r8 =>
Q r8 I7))))))) ∧
(r3 = 0 → Q (-1 : Int32) I))))))))
set_option maxHeartbeats 4000000 in
set_option maxRecDepth 100000 in
theorem c_X10_ahead (K : Kx) (hW : WFK K) (l : Launch) (a0 : Nat) (x1 : Int32) (x2 : Int32) (k0 : (kG K a0).1 = 12) (I : MI) (J : MJ) (B : MR) (Q : Int32 → MI → Prop) (h : w_X10_ahead a0 x1 x2 I Q) : Con K l yX10_ahead (wsT yX10_ahead cX10_ahead 4 (some .int)) rm_X10_ahead [.ref a0, .int x1, .int x2] (I, J, B) (va_Qi (S := MI) Q (fun u t => HP K (u, J, B) t.heap) (AA K)) := by
  refine Con.ofJ RX10 rfl (by decide) (Nat.le_of_ble_eq_true rfl) (fun m H0 w G => ?_)
  unfold w_X10_ahead at h
  show Jg K m 4 H0 w 0 [(0, .ref a0), (1, .int x1), (2, .int x2)] [] (I, J, B)
  refine j_iload_n G 1 1 dX10_ahead_0 rfl rfl ?_
  refine j_iconst G (0 : Int32) dX10_ahead_1 (by decide) ?_
  refine j_bipush G (60 : Int32) dX10_ahead_2 (by decide) ?_
  refine j_ci (rn_S G (n := 3) (As := [.int x1, .int (0 : Int32), .int (60 : Int32)]) (rest := []) (c_X10_isIn K hW l x1 (0 : Int32) (60 : Int32) I J B _ h) ml_X10_190 st_X10_isIn in_X10 co_X10_isIn (by decide +kernel) rfl rfl (by decide) (by decide) rfl rfl (Nat.le_of_ble_eq_true rfl) dX10_ahead_4) (fun r1 _ h => ?_)
  refine j_if_eq G 20 dX10_ahead_7 (by decide) (fun c2 => ?_) (fun c2 => ?_)
  · have h := h.1 c2
    refine j_iconst G (-1 : Int32) dX10_ahead_20 (by decide) ?_
    exact j_reti G I rfl dX10_ahead_21 h rfl
  · have h := h.2 c2
    refine j_iload_n G 2 2 dX10_ahead_10 rfl rfl ?_
    refine j_iconst G (0 : Int32) dX10_ahead_11 (by decide) ?_
    refine j_bipush G (11 : Int32) dX10_ahead_12 (by decide) ?_
    refine j_ci (rn_S G (n := 3) (As := [.int x2, .int (0 : Int32), .int (11 : Int32)]) (rest := []) (c_X10_isIn K hW l x2 (0 : Int32) (11 : Int32) I J B _ h) ml_X10_190 st_X10_isIn in_X10 co_X10_isIn (by decide +kernel) rfl rfl (by decide) (by decide) rfl rfl (Nat.le_of_ble_eq_true rfl) dX10_ahead_14) (fun r3 _ h => ?_)
    refine j_if_ne G 22 dX10_ahead_17 (by decide) (fun c4 => ?_) (fun c4 => ?_)
    · have h := h.1 c4
      refine j_aload_n G 0 0 dX10_ahead_22 rfl rfl ?_
      refine j_iconst G (0 : Int32) dX10_ahead_23 (by decide) ?_
      refine j_sipush G (516 : Int32) dX10_ahead_24 (by decide) ?_
      refine j_cv (rn_V G hW (ci := 11) (n := 2) (As := [.int (0 : Int32), .int (516 : Int32)]) (rest := []) (c_X10_copies K hW l a0 (0 : Int32) (516 : Int32) k0 I J B _ h) k0 (by decide) rfl ml_X10_177 im_X10_copies se_X10_copies in_X10 co_X10_copies rfl (by decide +kernel) rfl rfl (by decide) (by decide) rfl rfl (Nat.le_of_ble_eq_true rfl) dX10_ahead_27) (fun I5 h => ?_)
      refine j_aload_n G 0 0 dX10_ahead_30 rfl rfl ?_
      refine j_sipush G (516 : Int32) dX10_ahead_31 (by decide) ?_
      refine j_iload_n G 1 1 dX10_ahead_34 rfl rfl ?_
      refine j_ci (rn_V G hW (ci := 11) (n := 2) (As := [.int (516 : Int32), .int x1]) (rest := []) (c_X10_goes K hW l a0 (516 : Int32) x1 k0 I5 J B _ h) k0 (by decide) rfl ml_X10_180 im_X10_goes se_X10_goes in_X10 co_X10_goes rfl (by decide +kernel) rfl rfl (by decide) (by decide) rfl rfl (Nat.le_of_ble_eq_true rfl) dX10_ahead_35) (fun r6 I7 h => ?_)
      refine j_istore_n G 3 [(3, .int r6), (0, .ref a0), (1, .int x1), (2, .int x2)] dX10_ahead_38 rfl (by decide) rfl ?_
      refine j_aload_n G 1 0 dX10_ahead_39 rfl rfl ?_
      refine j_sipush G (516 : Int32) dX10_ahead_40 (by decide) ?_
      refine j_iload_n G 3 2 dX10_ahead_43 rfl rfl ?_
      refine j_ci (rn_V G hW (ci := 11) (n := 2) (As := [.int (516 : Int32), .int x2]) (rest := []) (c_X10_counts K hW l a0 (516 : Int32) x2 k0 I7 J B _ h) k0 (by decide) rfl ml_X10_202 im_X10_counts se_X10_counts in_X10 co_X10_counts rfl (by decide +kernel) rfl rfl (by decide) (by decide) rfl rfl (Nat.le_of_ble_eq_true rfl) dX10_ahead_44) (fun r8 _ h => ?_)
      exact j_reti G I7 rfl dX10_ahead_47 h rfl
    · have h := h.2 c4
      refine j_iconst G (-1 : Int32) dX10_ahead_20 (by decide) ?_
      exact j_reti G I rfl dX10_ahead_21 h rfl
abbrev rm_X10_changed : Room := { frames := 8, cells := 0, slots := 0, locals := 201 }
def w_X10_changed_l27 (a0 : Nat) (x1 : Int32) (x2 : Int32)   (Q : Int32 → MI → Prop) (rec : MI → Prop) (I : MI) : Prop :=
((¬ (I (a0 + 1) (ix (687 : Int32))) = 0 → Q (-1 : Int32) I) ∧
((I (a0 + 1) (ix (687 : Int32))) = 0 → (w_X10_cycle a0 (516 : Int32) I (fun I9 =>
(vp_in ((694 : Int32) + x1) 4905 ∧
(((I9 (a0 + 1) (ix ((694 : Int32) + x1))) = x2 → rec I9) ∧
(¬ (I9 (a0 + 1) (ix ((694 : Int32) + x1))) = x2 → Q (I9 (a0 + 1) (ix (686 : Int32))) I9)))))))
set_option maxHeartbeats 4000000 in
set_option maxRecDepth 100000 in
theorem m_X10_changed_l27 {K : Kx} {l : Launch} {m : MethodId} {H0 : Heap} {Q : Int32 → MI → Prop} {w : HW} {J : MJ} {B : MR} (G : Gd l rm_X10_changed K m RX10 cX10_changed 3 H0 (some .int) (va_Qi (S := MI) Q (fun u t => HP K (u, J, B) t.heap) (AA K)) w) (hW : WFK K) (a0 : Nat) (x1 : Int32) (x2 : Int32) (ka0 : (kG K a0).1 = 12) (I : MI)   (h : Lp1 (w_X10_changed_l27 a0 x1 x2 Q) I) : Jg K m 3 H0 w 27 [(0, .ref a0), (1, .int x1), (2, .int x2)] [] (I, J, B) := by
  obtain ⟨n, h⟩ := h
  refine lpN1_ind (P := (fun (I : MI) => Jg K m 3 H0 w 27 [(0, .ref a0), (1, .int x1), (2, .int x2)] [] (I, J, B))) (fun rec hrec I h => ?_) n I h
  unfold w_X10_changed_l27 at h
  refine j_aload_n G 0 0 dX10_changed_27 rfl rfl ?_
  have kk7 : kG K (a0 + 1) = (20, 4905) := wk_12_1 hW ka0
  refine j_get G hW 11 0 4 (.ref (a0 + 1)) ka0 (by decide) rfl (by decide) rfl lay_X10 fl_X10_7 rfl rfl dX10_changed_28 ?_
  refine j_sipush G (687 : Int32) dX10_changed_31 (by decide) ?_
  refine j_iald G hW kk7 (vpc rfl) dX10_changed_34 ?_
  refine j_if_ne G 68 dX10_changed_35 (by decide) (fun c8 => ?_) (fun c8 => ?_)
  · have h := h.1 c8
    refine j_iconst G (-1 : Int32) dX10_changed_68 (by decide) ?_
    exact j_reti G I rfl dX10_changed_69 h rfl
  · have h := h.2 c8
    refine j_aload_n G 0 0 dX10_changed_38 rfl rfl ?_
    refine j_sipush G (516 : Int32) dX10_changed_39 (by decide) ?_
    refine j_cv (rn_V G hW (ci := 11) (n := 1) (As := [.int (516 : Int32)]) (rest := []) (c_X10_cycle K hW l a0 (516 : Int32) ka0 I J B _ h) ka0 (by decide) rfl ml_X10_171 im_X10_cycle se_X10_cycle in_X10 co_X10_cycle rfl (by decide +kernel) rfl rfl (by decide) (by decide) rfl rfl (Nat.le_of_ble_eq_true rfl) dX10_changed_42) (fun I9 h => ?_)
    refine j_aload_n G 0 0 dX10_changed_45 rfl rfl ?_
    refine j_get G hW 11 0 4 (.ref (a0 + 1)) ka0 (by decide) rfl (by decide) rfl lay_X10 fl_X10_7 rfl rfl dX10_changed_46 ?_
    refine j_sipush G (694 : Int32) dX10_changed_49 (by decide) ?_
    refine j_iload_n G 1 1 dX10_changed_52 rfl rfl ?_
    refine j_iadd G dX10_changed_53 ?_
    obtain ⟨b10, h⟩ := h
    refine j_iald G hW kk7 b10 dX10_changed_54 ?_
    refine j_iload_n G 2 2 dX10_changed_55 rfl rfl ?_
    refine j_icmp_eq G 27 dX10_changed_56 (by decide) (fun c11 => ?_) (fun c11 => ?_)
    · have h := h.1 c11
      exact hrec I9 h
    · have h := h.2 c11
      refine j_aload_n G 0 0 dX10_changed_59 rfl rfl ?_
      refine j_get G hW 11 0 4 (.ref (a0 + 1)) ka0 (by decide) rfl (by decide) rfl lay_X10 fl_X10_7 rfl rfl dX10_changed_60 ?_
      refine j_sipush G (686 : Int32) dX10_changed_63 (by decide) ?_
      refine j_iald G hW kk7 (vpc rfl) dX10_changed_66 ?_
      exact j_reti G I9 rfl dX10_changed_67 h rfl
def w_X10_changed (a0 : Nat) (x1 : Int32) (I : MI) (Q : Int32 → MI → Prop) : Prop :=
(w_X10_isIn x1 (0 : Int32) (31 : Int32) (fun r1 =>
((¬ r1 = 0 → (w_X10_tries a0 I (fun I3 =>
(vp_in ((694 : Int32) + x1) 4905 ∧
(∀ x2_6, x2_6 = I3 (a0 + 1) (ix ((694 : Int32) + x1)) →
Lp1 (w_X10_changed_l27 a0 x1 x2_6 Q) I3))))) ∧
(r1 = 0 → Q (-1 : Int32) I))))
set_option maxHeartbeats 4000000 in
set_option maxRecDepth 100000 in
theorem c_X10_changed (K : Kx) (hW : WFK K) (l : Launch) (a0 : Nat) (x1 : Int32) (k0 : (kG K a0).1 = 12) (I : MI) (J : MJ) (B : MR) (Q : Int32 → MI → Prop) (h : w_X10_changed a0 x1 I Q) : Con K l yX10_changed (wsT yX10_changed cX10_changed 3 (some .int)) rm_X10_changed [.ref a0, .int x1] (I, J, B) (va_Qi (S := MI) Q (fun u t => HP K (u, J, B) t.heap) (AA K)) := by
  refine Con.ofJ RX10 rfl (by decide) (Nat.le_of_ble_eq_true rfl) (fun m H0 w G => ?_)
  unfold w_X10_changed at h
  show Jg K m 3 H0 w 0 [(0, .ref a0), (1, .int x1)] [] (I, J, B)
  refine j_iload_n G 1 1 dX10_changed_0 rfl rfl ?_
  refine j_iconst G (0 : Int32) dX10_changed_1 (by decide) ?_
  refine j_bipush G (31 : Int32) dX10_changed_2 (by decide) ?_
  refine j_ci (rn_S G (n := 3) (As := [.int x1, .int (0 : Int32), .int (31 : Int32)]) (rest := []) (c_X10_isIn K hW l x1 (0 : Int32) (31 : Int32) I J B _ h) ml_X10_190 st_X10_isIn in_X10 co_X10_isIn (by decide +kernel) rfl rfl (by decide) (by decide) rfl rfl (Nat.le_of_ble_eq_true rfl) dX10_changed_4) (fun r1 _ h => ?_)
  refine j_if_ne G 12 dX10_changed_7 (by decide) (fun c2 => ?_) (fun c2 => ?_)
  · have h := h.1 c2
    refine j_aload_n G 0 0 dX10_changed_12 rfl rfl ?_
    refine j_cv (rn_V G hW (ci := 11) (n := 0) (As := []) (rest := []) (c_X10_tries K hW l a0 k0 I J B _ h) k0 (by decide) rfl ml_X10_183 im_X10_tries se_X10_tries in_X10 co_X10_tries rfl (by decide +kernel) rfl rfl (by decide) (by decide) rfl rfl (Nat.le_of_ble_eq_true rfl) dX10_changed_13) (fun I3 h => ?_)
    refine j_aload_n G 0 0 dX10_changed_16 rfl rfl ?_
    have kk4 : kG K (a0 + 1) = (20, 4905) := wk_12_1 hW k0
    refine j_get G hW 11 0 4 (.ref (a0 + 1)) k0 (by decide) rfl (by decide) rfl lay_X10 fl_X10_7 rfl rfl dX10_changed_17 ?_
    refine j_sipush G (694 : Int32) dX10_changed_20 (by decide) ?_
    refine j_iload_n G 1 1 dX10_changed_23 rfl rfl ?_
    refine j_iadd G dX10_changed_24 ?_
    obtain ⟨b5, h⟩ := h
    refine j_iald G hW kk4 b5 dX10_changed_25 ?_
    refine j_nm (fun x2_6 ex2_6 => ?_)
    have h := h x2_6 ex2_6
    refine j_istore_n G 2 [(2, .int x2_6), (0, .ref a0), (1, .int x1)] dX10_changed_26 rfl (by decide) rfl ?_
    refine Jg.sub [1, 2, 0] rfl (m_X10_changed_l27 G hW a0 x1 x2_6 k0 I3 h)
  · have h := h.2 c2
    refine j_iconst G (-1 : Int32) dX10_changed_10 (by decide) ?_
    exact j_reti G I rfl dX10_changed_11 h rfl
abbrev rm_X10_slipped : Room := { frames := 8, cells := 0, slots := 0, locals := 201 }
def w_X10_slipped_l4 (a0 : Nat) (x1 : Int32)   (Q : Int32 → MI → Prop) (rec : MI → Prop) (I : MI) : Prop :=
(w_X10_slip a0 (516 : Int32) I (fun r2 =>
((r2 = x1 → Q (I (a0 + 1) (ix (686 : Int32))) I) ∧
(¬ r2 = x1 → (((I (a0 + 1) (ix (687 : Int32))) = 0 → (w_X10_cycle a0 (516 : Int32) I (fun I7 =>
rec I7))) ∧
(¬ (I (a0 + 1) (ix (687 : Int32))) = 0 → Q (-1 : Int32) I))))))
set_option maxHeartbeats 4000000 in
set_option maxRecDepth 100000 in
theorem m_X10_slipped_l4 {K : Kx} {l : Launch} {m : MethodId} {H0 : Heap} {Q : Int32 → MI → Prop} {w : HW} {J : MJ} {B : MR} (G : Gd l rm_X10_slipped K m RX10 cX10_slipped 2 H0 (some .int) (va_Qi (S := MI) Q (fun u t => HP K (u, J, B) t.heap) (AA K)) w) (hW : WFK K) (a0 : Nat) (x1 : Int32) (ka0 : (kG K a0).1 = 12) (I : MI)   (h : Lp1 (w_X10_slipped_l4 a0 x1 Q) I) : Jg K m 2 H0 w 4 [(0, .ref a0), (1, .int x1)] [] (I, J, B) := by
  obtain ⟨n, h⟩ := h
  refine lpN1_ind (P := (fun (I : MI) => Jg K m 2 H0 w 4 [(0, .ref a0), (1, .int x1)] [] (I, J, B))) (fun rec hrec I h => ?_) n I h
  unfold w_X10_slipped_l4 at h
  refine j_aload_n G 0 0 dX10_slipped_4 rfl rfl ?_
  refine j_sipush G (516 : Int32) dX10_slipped_5 (by decide) ?_
  refine j_ci (rn_V G hW (ci := 11) (n := 1) (As := [.int (516 : Int32)]) (rest := []) (c_X10_slip K hW l a0 (516 : Int32) ka0 I J B _ h) ka0 (by decide) rfl ml_X10_165 im_X10_slip se_X10_slip in_X10 co_X10_slip rfl (by decide +kernel) rfl rfl (by decide) (by decide) rfl rfl (Nat.le_of_ble_eq_true rfl) dX10_slipped_8) (fun r2 _ h => ?_)
  refine j_iload_n G 1 1 dX10_slipped_11 rfl rfl ?_
  refine j_icmp_eq G 38 dX10_slipped_12 (by decide) (fun c3 => ?_) (fun c3 => ?_)
  · have h := h.1 c3
    refine j_aload_n G 0 0 dX10_slipped_38 rfl rfl ?_
    have kk4 : kG K (a0 + 1) = (20, 4905) := wk_12_1 hW ka0
    refine j_get G hW 11 0 4 (.ref (a0 + 1)) ka0 (by decide) rfl (by decide) rfl lay_X10 fl_X10_7 rfl rfl dX10_slipped_39 ?_
    refine j_sipush G (686 : Int32) dX10_slipped_42 (by decide) ?_
    refine j_iald G hW kk4 (vpc rfl) dX10_slipped_45 ?_
    exact j_reti G I rfl dX10_slipped_46 h rfl
  · have h := h.2 c3
    refine j_aload_n G 0 0 dX10_slipped_15 rfl rfl ?_
    have kk5 : kG K (a0 + 1) = (20, 4905) := wk_12_1 hW ka0
    refine j_get G hW 11 0 4 (.ref (a0 + 1)) ka0 (by decide) rfl (by decide) rfl lay_X10 fl_X10_7 rfl rfl dX10_slipped_16 ?_
    refine j_sipush G (687 : Int32) dX10_slipped_19 (by decide) ?_
    refine j_iald G hW kk5 (vpc rfl) dX10_slipped_22 ?_
    refine j_if_eq G 28 dX10_slipped_23 (by decide) (fun c6 => ?_) (fun c6 => ?_)
    · have h := h.1 c6
      refine j_aload_n G 0 0 dX10_slipped_28 rfl rfl ?_
      refine j_sipush G (516 : Int32) dX10_slipped_29 (by decide) ?_
      refine j_cv (rn_V G hW (ci := 11) (n := 1) (As := [.int (516 : Int32)]) (rest := []) (c_X10_cycle K hW l a0 (516 : Int32) ka0 I J B _ h) ka0 (by decide) rfl ml_X10_171 im_X10_cycle se_X10_cycle in_X10 co_X10_cycle rfl (by decide +kernel) rfl rfl (by decide) (by decide) rfl rfl (Nat.le_of_ble_eq_true rfl) dX10_slipped_32) (fun I7 h => ?_)
      refine j_goto G 4 dX10_slipped_35 (by decide) ?_
      exact hrec I7 h
    · have h := h.2 c6
      refine j_iconst G (-1 : Int32) dX10_slipped_26 (by decide) ?_
      exact j_reti G I rfl dX10_slipped_27 h rfl
def w_X10_slipped (a0 : Nat) (x1 : Int32) (I : MI) (Q : Int32 → MI → Prop) : Prop :=
(w_X10_tries a0 I (fun I1 =>
Lp1 (w_X10_slipped_l4 a0 x1 Q) I1))
set_option maxHeartbeats 4000000 in
set_option maxRecDepth 100000 in
theorem c_X10_slipped (K : Kx) (hW : WFK K) (l : Launch) (a0 : Nat) (x1 : Int32) (k0 : (kG K a0).1 = 12) (I : MI) (J : MJ) (B : MR) (Q : Int32 → MI → Prop) (h : w_X10_slipped a0 x1 I Q) : Con K l yX10_slipped (wsT yX10_slipped cX10_slipped 2 (some .int)) rm_X10_slipped [.ref a0, .int x1] (I, J, B) (va_Qi (S := MI) Q (fun u t => HP K (u, J, B) t.heap) (AA K)) := by
  refine Con.ofJ RX10 rfl (by decide) (Nat.le_of_ble_eq_true rfl) (fun m H0 w G => ?_)
  unfold w_X10_slipped at h
  show Jg K m 2 H0 w 0 [(0, .ref a0), (1, .int x1)] [] (I, J, B)
  refine j_aload_n G 0 0 dX10_slipped_0 rfl rfl ?_
  refine j_cv (rn_V G hW (ci := 11) (n := 0) (As := []) (rest := []) (c_X10_tries K hW l a0 k0 I J B _ h) k0 (by decide) rfl ml_X10_183 im_X10_tries se_X10_tries in_X10 co_X10_tries rfl (by decide +kernel) rfl rfl (by decide) (by decide) rfl rfl (Nat.le_of_ble_eq_true rfl) dX10_slipped_1) (fun I1 h => ?_)
  refine Jg.sub [0, 1] rfl (m_X10_slipped_l4 G hW a0 x1 k0 I1 h)
abbrev rm_X10_step : Room := { frames := 3, cells := 0, slots := 0, locals := 67 }
def w_X10_step_p191 (a0 : Nat) (x1 : Int32) (x2 : Int32) (x3 : Int32)  (I : MI)  (Q : MI → Prop) : Prop :=
((¬ x2 = (5 : Int32) → Q I) ∧
(x2 = (5 : Int32) → (w_X10_cellOf a0 (516 : Int32) x1 I (fun r18 =>
(w_X10_reg a0 (516 : Int32) x3 I (fun r19 =>
(vp_in ((694 : Int32) + r18) 4905 ∧
(∀ I21, I21 = ui I (a0 + 1) (ix ((694 : Int32) + r18)) r19 →
Q I21))))))))
set_option maxHeartbeats 4000000 in
set_option maxRecDepth 100000 in
theorem m_X10_step_p191 {K : Kx} {l : Launch} {m : MethodId} {H0 : Heap} {Q : MI → Prop} {w : HW} {J : MJ} {B : MR} (G : Gd l rm_X10_step K m RX10 cX10_step 5 H0 none (va_Qv (S := MI) Q (fun u t => HP K (u, J, B) t.heap) (AA K)) w) (hW : WFK K) (a0 : Nat) (x1 : Int32) (x2 : Int32) (x3 : Int32)  (ka0 : (kG K a0).1 = 12)  (I : MI)   (h : w_X10_step_p191 a0 x1 x2 x3 I Q) : Jg K m 5 H0 w 191 [(0, .ref a0), (1, .int x1), (2, .int x2), (3, .int x3)] [] (I, J, B) := by
  unfold w_X10_step_p191 at h
  refine j_iload_n G 2 2 dX10_step_191 rfl rfl ?_
  refine j_iconst G (5 : Int32) dX10_step_192 (by decide) ?_
  refine j_icmp_ne G 221 dX10_step_193 (by decide) (fun c16 => ?_) (fun c16 => ?_)
  · have h := h.1 c16
    exact j_retv G I dX10_step_221 h rfl
  · have h := h.2 c16
    refine j_aload_n G 0 0 dX10_step_196 rfl rfl ?_
    have kk17 : kG K (a0 + 1) = (20, 4905) := wk_12_1 hW ka0
    refine j_get G hW 11 0 4 (.ref (a0 + 1)) ka0 (by decide) rfl (by decide) rfl lay_X10 fl_X10_7 rfl rfl dX10_step_197 ?_
    refine j_sipush G (694 : Int32) dX10_step_200 (by decide) ?_
    refine j_aload_n G 0 0 dX10_step_203 rfl rfl ?_
    refine j_sipush G (516 : Int32) dX10_step_204 (by decide) ?_
    refine j_iload_n G 1 1 dX10_step_207 rfl rfl ?_
    refine j_ci (rn_V G hW (ci := 11) (n := 2) (As := [.int (516 : Int32), .int x1]) (rest := [.int (694 : Int32), .ref (a0 + 1)]) (c_X10_cellOf K hW l a0 (516 : Int32) x1 ka0 I J B _ h) ka0 (by decide) rfl ml_X10_125 im_X10_cellOf se_X10_cellOf in_X10 co_X10_cellOf rfl (by decide +kernel) rfl rfl (by decide) (by decide) rfl rfl (Nat.le_of_ble_eq_true rfl) dX10_step_208) (fun r18 _ h => ?_)
    refine j_iadd G dX10_step_211 ?_
    refine j_aload_n G 0 0 dX10_step_212 rfl rfl ?_
    refine j_sipush G (516 : Int32) dX10_step_213 (by decide) ?_
    refine j_iload_n G 3 3 dX10_step_216 rfl rfl ?_
    refine j_ci (rn_V G hW (ci := 11) (n := 2) (As := [.int (516 : Int32), .int x3]) (rest := [.int ((694 : Int32) + r18), .ref (a0 + 1)]) (c_X10_reg K hW l a0 (516 : Int32) x3 ka0 I J B _ h) ka0 (by decide) rfl ml_X10_92 im_X10_reg se_X10_reg in_X10 co_X10_reg rfl (by decide +kernel) rfl rfl (by decide) (by decide) rfl rfl (Nat.le_of_ble_eq_true rfl) dX10_step_217) (fun r19 _ h => ?_)
    obtain ⟨b20, h⟩ := h
    refine j_iast G hW kk17 b20 dX10_step_220 ?_
    refine j_mI (fun I21 eI21 => ?_)
    have h := h I21 eI21
    exact j_retv G I21 dX10_step_221 h rfl
def w_X10_step_p159 (a0 : Nat) (x1 : Int32) (x2 : Int32) (x3 : Int32)  (I : MI)  (Q : MI → Prop) : Prop :=
((¬ x2 = (4 : Int32) → w_X10_step_p191 a0 x1 x2 x3 I Q) ∧
(x2 = (4 : Int32) → (w_X10_cellOf a0 (516 : Int32) x1 I (fun r23 =>
(vp_in ((694 : Int32) + r23) 4905 ∧
(vp_in ((726 : Int32) + x3) 4905 ∧
(∀ I26, I26 = ui I (a0 + 1) (ix ((726 : Int32) + x3)) (I (a0 + 1) (ix ((694 : Int32) + r23))) →
w_X10_step_p191 a0 x1 x2 x3 I26 Q)))))))
set_option maxHeartbeats 4000000 in
set_option maxRecDepth 100000 in
theorem m_X10_step_p159 {K : Kx} {l : Launch} {m : MethodId} {H0 : Heap} {Q : MI → Prop} {w : HW} {J : MJ} {B : MR} (G : Gd l rm_X10_step K m RX10 cX10_step 5 H0 none (va_Qv (S := MI) Q (fun u t => HP K (u, J, B) t.heap) (AA K)) w) (hW : WFK K) (a0 : Nat) (x1 : Int32) (x2 : Int32) (x3 : Int32)  (ka0 : (kG K a0).1 = 12)  (I : MI)   (h : w_X10_step_p159 a0 x1 x2 x3 I Q) : Jg K m 5 H0 w 159 [(0, .ref a0), (1, .int x1), (2, .int x2), (3, .int x3)] [] (I, J, B) := by
  unfold w_X10_step_p159 at h
  refine j_iload_n G 2 2 dX10_step_159 rfl rfl ?_
  refine j_iconst G (4 : Int32) dX10_step_160 (by decide) ?_
  refine j_icmp_ne G 191 dX10_step_161 (by decide) (fun c15 => ?_) (fun c15 => ?_)
  · have h := h.1 c15
    exact m_X10_step_p191 G hW a0 x1 x2 x3 ka0 I h
  · have h := h.2 c15
    refine j_aload_n G 0 0 dX10_step_164 rfl rfl ?_
    have kk22 : kG K (a0 + 1) = (20, 4905) := wk_12_1 hW ka0
    refine j_get G hW 11 0 4 (.ref (a0 + 1)) ka0 (by decide) rfl (by decide) rfl lay_X10 fl_X10_7 rfl rfl dX10_step_165 ?_
    refine j_sipush G (726 : Int32) dX10_step_168 (by decide) ?_
    refine j_iload_n G 3 3 dX10_step_171 rfl rfl ?_
    refine j_iadd G dX10_step_172 ?_
    refine j_aload_n G 0 0 dX10_step_173 rfl rfl ?_
    refine j_get G hW 11 0 4 (.ref (a0 + 1)) ka0 (by decide) rfl (by decide) rfl lay_X10 fl_X10_7 rfl rfl dX10_step_174 ?_
    refine j_sipush G (694 : Int32) dX10_step_177 (by decide) ?_
    refine j_aload_n G 0 0 dX10_step_180 rfl rfl ?_
    refine j_sipush G (516 : Int32) dX10_step_181 (by decide) ?_
    refine j_iload_n G 1 1 dX10_step_184 rfl rfl ?_
    refine j_ci (rn_V G hW (ci := 11) (n := 2) (As := [.int (516 : Int32), .int x1]) (rest := [.int (694 : Int32), .ref (a0 + 1), .int ((726 : Int32) + x3), .ref (a0 + 1)]) (c_X10_cellOf K hW l a0 (516 : Int32) x1 ka0 I J B _ h) ka0 (by decide) rfl ml_X10_125 im_X10_cellOf se_X10_cellOf in_X10 co_X10_cellOf rfl (by decide +kernel) rfl rfl (by decide) (by decide) rfl rfl (Nat.le_of_ble_eq_true rfl) dX10_step_185) (fun r23 _ h => ?_)
    refine j_iadd G dX10_step_188 ?_
    obtain ⟨b24, h⟩ := h
    refine j_iald G hW kk22 b24 dX10_step_189 ?_
    obtain ⟨b25, h⟩ := h
    refine j_iast G hW kk22 b25 dX10_step_190 ?_
    refine j_mI (fun I26 eI26 => ?_)
    have h := h I26 eI26
    exact m_X10_step_p191 G hW a0 x1 x2 x3 ka0 I26 h
def w_X10_step_p130 (a0 : Nat) (x1 : Int32) (x2 : Int32) (x3 : Int32)  (I : MI)  (Q : MI → Prop) : Prop :=
((x2 = 0 → (w_X10_reckoned a0 (516 : Int32) x1 I (fun r12 =>
(vp_in ((726 : Int32) + x3) 4905 ∧
(∀ I14, I14 = ui I (a0 + 1) (ix ((726 : Int32) + x3)) r12 →
w_X10_step_p159 a0 x1 x2 x3 I14 Q))))) ∧
(¬ x2 = 0 → (w_X10_isReckoning x2 (fun r27 =>
((r27 = 0 → w_X10_step_p159 a0 x1 x2 x3 I Q) ∧
(¬ r27 = 0 → (w_X10_reckoned a0 (516 : Int32) x1 I (fun r30 =>
(vp_in ((726 : Int32) + x3) 4905 ∧
(∀ I32, I32 = ui I (a0 + 1) (ix ((726 : Int32) + x3)) r30 →
w_X10_step_p159 a0 x1 x2 x3 I32 Q))))))))))
set_option maxHeartbeats 4000000 in
set_option maxRecDepth 100000 in
theorem m_X10_step_p130 {K : Kx} {l : Launch} {m : MethodId} {H0 : Heap} {Q : MI → Prop} {w : HW} {J : MJ} {B : MR} (G : Gd l rm_X10_step K m RX10 cX10_step 5 H0 none (va_Qv (S := MI) Q (fun u t => HP K (u, J, B) t.heap) (AA K)) w) (hW : WFK K) (a0 : Nat) (x1 : Int32) (x2 : Int32) (x3 : Int32)  (ka0 : (kG K a0).1 = 12)  (I : MI)   (h : w_X10_step_p130 a0 x1 x2 x3 I Q) : Jg K m 5 H0 w 130 [(0, .ref a0), (1, .int x1), (2, .int x2), (3, .int x3)] [] (I, J, B) := by
  unfold w_X10_step_p130 at h
  refine j_iload_n G 2 2 dX10_step_130 rfl rfl ?_
  refine j_if_eq G 141 dX10_step_131 (by decide) (fun c10 => ?_) (fun c10 => ?_)
  · have h := h.1 c10
    refine j_aload_n G 0 0 dX10_step_141 rfl rfl ?_
    have kk11 : kG K (a0 + 1) = (20, 4905) := wk_12_1 hW ka0
    refine j_get G hW 11 0 4 (.ref (a0 + 1)) ka0 (by decide) rfl (by decide) rfl lay_X10 fl_X10_7 rfl rfl dX10_step_142 ?_
    refine j_sipush G (726 : Int32) dX10_step_145 (by decide) ?_
    refine j_iload_n G 3 3 dX10_step_148 rfl rfl ?_
    refine j_iadd G dX10_step_149 ?_
    refine j_aload_n G 0 0 dX10_step_150 rfl rfl ?_
    refine j_sipush G (516 : Int32) dX10_step_151 (by decide) ?_
    refine j_iload_n G 1 1 dX10_step_154 rfl rfl ?_
    refine j_ci (rn_V G hW (ci := 11) (n := 2) (As := [.int (516 : Int32), .int x1]) (rest := [.int ((726 : Int32) + x3), .ref (a0 + 1)]) (c_X10_reckoned K hW l a0 (516 : Int32) x1 ka0 I J B _ h) ka0 (by decide) rfl ml_X10_122 im_X10_reckoned se_X10_reckoned in_X10 co_X10_reckoned rfl (by decide +kernel) rfl rfl (by decide) (by decide) rfl rfl (Nat.le_of_ble_eq_true rfl) dX10_step_155) (fun r12 _ h => ?_)
    obtain ⟨b13, h⟩ := h
    refine j_iast G hW kk11 b13 dX10_step_158 ?_
    refine j_mI (fun I14 eI14 => ?_)
    have h := h I14 eI14
    exact m_X10_step_p159 G hW a0 x1 x2 x3 ka0 I14 h
  · have h := h.2 c10
    refine j_iload_n G 2 2 dX10_step_134 rfl rfl ?_
    refine j_ci (rn_S G (n := 1) (As := [.int x2]) (rest := []) (c_X10_isReckoning K hW l x2 I J B _ h) ml_X10_62 st_X10_isReckoning in_X10 co_X10_isReckoning (by decide +kernel) rfl rfl (by decide) (by decide) rfl rfl (Nat.le_of_ble_eq_true rfl) dX10_step_135) (fun r27 _ h => ?_)
    refine j_if_eq G 159 dX10_step_138 (by decide) (fun c28 => ?_) (fun c28 => ?_)
    · have h := h.1 c28
      exact m_X10_step_p159 G hW a0 x1 x2 x3 ka0 I h
    · have h := h.2 c28
      refine j_aload_n G 0 0 dX10_step_141 rfl rfl ?_
      have kk29 : kG K (a0 + 1) = (20, 4905) := wk_12_1 hW ka0
      refine j_get G hW 11 0 4 (.ref (a0 + 1)) ka0 (by decide) rfl (by decide) rfl lay_X10 fl_X10_7 rfl rfl dX10_step_142 ?_
      refine j_sipush G (726 : Int32) dX10_step_145 (by decide) ?_
      refine j_iload_n G 3 3 dX10_step_148 rfl rfl ?_
      refine j_iadd G dX10_step_149 ?_
      refine j_aload_n G 0 0 dX10_step_150 rfl rfl ?_
      refine j_sipush G (516 : Int32) dX10_step_151 (by decide) ?_
      refine j_iload_n G 1 1 dX10_step_154 rfl rfl ?_
      refine j_ci (rn_V G hW (ci := 11) (n := 2) (As := [.int (516 : Int32), .int x1]) (rest := [.int ((726 : Int32) + x3), .ref (a0 + 1)]) (c_X10_reckoned K hW l a0 (516 : Int32) x1 ka0 I J B _ h) ka0 (by decide) rfl ml_X10_122 im_X10_reckoned se_X10_reckoned in_X10 co_X10_reckoned rfl (by decide +kernel) rfl rfl (by decide) (by decide) rfl rfl (Nat.le_of_ble_eq_true rfl) dX10_step_155) (fun r30 _ h => ?_)
      obtain ⟨b31, h⟩ := h
      refine j_iast G hW kk29 b31 dX10_step_158 ?_
      refine j_mI (fun I32 eI32 => ?_)
      have h := h I32 eI32
      exact m_X10_step_p159 G hW a0 x1 x2 x3 ka0 I32 h
def w_X10_step_p79 (a0 : Nat) (x1 : Int32) (x2 : Int32) (x3 : Int32) (x4 : Int32)  (I : MI)  (Q : MI → Prop) : Prop :=
((¬ x2 = (7 : Int32) → w_X10_step_p130 a0 x1 x2 x3 I Q) ∧
(x2 = (7 : Int32) → (w_X10_of a0 (516 : Int32) x1 (3 : Int32) I (fun r33 =>
(w_X10_reg a0 (516 : Int32) x3 I (fun r34 =>
(w_X10_reg a0 (516 : Int32) x4 I (fun r35 =>
(w_X10_holds r33 r34 r35 (fun r36 =>
((r36 = 0 → w_X10_step_p130 a0 x1 x2 x3 I Q) ∧
(¬ r36 = 0 → (w_X10_of a0 (516 : Int32) x1 (4 : Int32) I (fun r38 =>
(∀ I39, I39 = ui I a0 7 r38 →
w_X10_step_p130 a0 x1 x2 x3 I39 Q)))))))))))))))
set_option maxHeartbeats 4000000 in
set_option maxRecDepth 100000 in
theorem m_X10_step_p79 {K : Kx} {l : Launch} {m : MethodId} {H0 : Heap} {Q : MI → Prop} {w : HW} {J : MJ} {B : MR} (G : Gd l rm_X10_step K m RX10 cX10_step 5 H0 none (va_Qv (S := MI) Q (fun u t => HP K (u, J, B) t.heap) (AA K)) w) (hW : WFK K) (a0 : Nat) (x1 : Int32) (x2 : Int32) (x3 : Int32) (x4 : Int32)  (ka0 : (kG K a0).1 = 12)  (I : MI)   (h : w_X10_step_p79 a0 x1 x2 x3 x4 I Q) : Jg K m 5 H0 w 79 [(0, .ref a0), (1, .int x1), (2, .int x2), (3, .int x3), (4, .int x4)] [] (I, J, B) := by
  unfold w_X10_step_p79 at h
  refine j_iload_n G 2 2 dX10_step_79 rfl rfl ?_
  refine j_bipush G (7 : Int32) dX10_step_80 (by decide) ?_
  refine j_icmp_ne G 130 dX10_step_82 (by decide) (fun c9 => ?_) (fun c9 => ?_)
  · have h := h.1 c9
    exact Jg.sub [0, 1, 2, 3] rfl (m_X10_step_p130 G hW a0 x1 x2 x3 ka0 I h)
  · have h := h.2 c9
    refine j_aload_n G 0 0 dX10_step_85 rfl rfl ?_
    refine j_sipush G (516 : Int32) dX10_step_86 (by decide) ?_
    refine j_iload_n G 1 1 dX10_step_89 rfl rfl ?_
    refine j_iconst G (3 : Int32) dX10_step_90 (by decide) ?_
    refine j_ci (rn_V G hW (ci := 11) (n := 3) (As := [.int (516 : Int32), .int x1, .int (3 : Int32)]) (rest := []) (c_X10_of K hW l a0 (516 : Int32) x1 (3 : Int32) ka0 I J B _ h) ka0 (by decide) rfl ml_X10_54 im_X10_of se_X10_of in_X10 co_X10_of rfl (by decide +kernel) rfl rfl (by decide) (by decide) rfl rfl (Nat.le_of_ble_eq_true rfl) dX10_step_91) (fun r33 _ h => ?_)
    refine j_aload_n G 0 0 dX10_step_94 rfl rfl ?_
    refine j_sipush G (516 : Int32) dX10_step_95 (by decide) ?_
    refine j_iload_n G 3 3 dX10_step_98 rfl rfl ?_
    refine j_ci (rn_V G hW (ci := 11) (n := 2) (As := [.int (516 : Int32), .int x3]) (rest := [.int r33]) (c_X10_reg K hW l a0 (516 : Int32) x3 ka0 I J B _ h) ka0 (by decide) rfl ml_X10_92 im_X10_reg se_X10_reg in_X10 co_X10_reg rfl (by decide +kernel) rfl rfl (by decide) (by decide) rfl rfl (Nat.le_of_ble_eq_true rfl) dX10_step_99) (fun r34 _ h => ?_)
    refine j_aload_n G 0 0 dX10_step_102 rfl rfl ?_
    refine j_sipush G (516 : Int32) dX10_step_103 (by decide) ?_
    refine j_iload G 4 dX10_step_106 rfl ?_
    refine j_ci (rn_V G hW (ci := 11) (n := 2) (As := [.int (516 : Int32), .int x4]) (rest := [.int r34, .int r33]) (c_X10_reg K hW l a0 (516 : Int32) x4 ka0 I J B _ h) ka0 (by decide) rfl ml_X10_92 im_X10_reg se_X10_reg in_X10 co_X10_reg rfl (by decide +kernel) rfl rfl (by decide) (by decide) rfl rfl (Nat.le_of_ble_eq_true rfl) dX10_step_108) (fun r35 _ h => ?_)
    refine j_ci (rn_S G (n := 3) (As := [.int r33, .int r34, .int r35]) (rest := []) (c_X10_holds K hW l r33 r34 r35 I J B _ h) ml_X10_128 st_X10_holds in_X10 co_X10_holds (by decide +kernel) rfl rfl (by decide) (by decide) rfl rfl (Nat.le_of_ble_eq_true rfl) dX10_step_111) (fun r36 _ h => ?_)
    refine j_if_eq G 130 dX10_step_114 (by decide) (fun c37 => ?_) (fun c37 => ?_)
    · have h := h.1 c37
      exact Jg.sub [0, 1, 2, 3] rfl (m_X10_step_p130 G hW a0 x1 x2 x3 ka0 I h)
    · have h := h.2 c37
      refine j_aload_n G 0 0 dX10_step_117 rfl rfl ?_
      refine j_aload_n G 0 0 dX10_step_118 rfl rfl ?_
      refine j_sipush G (516 : Int32) dX10_step_119 (by decide) ?_
      refine j_iload_n G 1 1 dX10_step_122 rfl rfl ?_
      refine j_iconst G (4 : Int32) dX10_step_123 (by decide) ?_
      refine j_ci (rn_V G hW (ci := 11) (n := 3) (As := [.int (516 : Int32), .int x1, .int (4 : Int32)]) (rest := [.ref a0]) (c_X10_of K hW l a0 (516 : Int32) x1 (4 : Int32) ka0 I J B _ h) ka0 (by decide) rfl ml_X10_54 im_X10_of se_X10_of in_X10 co_X10_of rfl (by decide +kernel) rfl rfl (by decide) (by decide) rfl rfl (Nat.le_of_ble_eq_true rfl) dX10_step_124) (fun r38 _ h => ?_)
      refine j_put G hW 11 7 tyX10 (tyX10 7) tyX10_ok nmX10 ka0 (by decide) rfl (by decide) rfl lay_X10 fl_X10_205 rfl rfl (tyX10_ok 7 (by decide)) rfl rfl dX10_step_127 ?_
      refine j_mI (fun I39 eI39 => ?_)
      have h := h I39 eI39
      exact Jg.sub [0, 1, 2, 3] rfl (m_X10_step_p130 G hW a0 x1 x2 x3 ka0 I39 h)
def w_X10_step (a0 : Nat) (I : MI) (Q : MI → Prop) : Prop :=
(∀ x1_1, x1_1 = I a0 7 →
(w_X10_opOf a0 (516 : Int32) x1_1 I (fun r2 =>
(w_X10_of a0 (516 : Int32) x1_1 (1 : Int32) I (fun r3 =>
(w_X10_of a0 (516 : Int32) x1_1 (2 : Int32) I (fun r4 =>
(∀ I5, I5 = ui I a0 7 ((I a0 7) + (1 : Int32)) →
((¬ r2 = (8 : Int32) → (∀ I7, I7 = ui I5 a0 6 (0 : Int32) →
((¬ r2 = (6 : Int32) → w_X10_step_p79 a0 x1_1 r2 r3 r4 I7 Q) ∧
(r2 = (6 : Int32) → (w_X10_of a0 (516 : Int32) x1_1 (4 : Int32) I7 (fun r40 =>
(∀ I41, I41 = ui I7 a0 7 r40 →
w_X10_step_p79 a0 x1_1 r2 r3 r4 I41 Q))))))) ∧
(r2 = (8 : Int32) → (∀ I42, I42 = ui I5 a0 6 (1 : Int32) →
((¬ r2 = (6 : Int32) → w_X10_step_p79 a0 x1_1 r2 r3 r4 I42 Q) ∧
(r2 = (6 : Int32) → (w_X10_of a0 (516 : Int32) x1_1 (4 : Int32) I42 (fun r44 =>
(∀ I45, I45 = ui I42 a0 7 r44 →
w_X10_step_p79 a0 x1_1 r2 r3 r4 I45 Q))))))))))))))))
set_option maxHeartbeats 4000000 in
set_option maxRecDepth 100000 in
theorem c_X10_step (K : Kx) (hW : WFK K) (l : Launch) (a0 : Nat) (k0 : (kG K a0).1 = 12) (I : MI) (J : MJ) (B : MR) (Q : MI → Prop) (h : w_X10_step a0 I Q) : Con K l yX10_step (wsT yX10_step cX10_step 5 none) rm_X10_step [.ref a0] (I, J, B) (va_Qv (S := MI) Q (fun u t => HP K (u, J, B) t.heap) (AA K)) := by
  refine Con.ofJ RX10 rfl (by decide) (Nat.le_of_ble_eq_true rfl) (fun m H0 w G => ?_)
  unfold w_X10_step at h
  show Jg K m 5 H0 w 0 [(0, .ref a0)] [] (I, J, B)
  refine j_aload_n G 0 0 dX10_step_0 rfl rfl ?_
  refine j_get G hW 11 7 0 (.int (I a0 7)) k0 (by decide) rfl (by decide) rfl lay_X10 fl_X10_205 rfl rfl dX10_step_1 ?_
  refine j_nm (fun x1_1 ex1_1 => ?_)
  have h := h x1_1 ex1_1
  refine j_istore_n G 1 [(1, .int x1_1), (0, .ref a0)] dX10_step_4 rfl (by decide) rfl ?_
  refine j_aload_n G 1 0 dX10_step_5 rfl rfl ?_
  refine j_sipush G (516 : Int32) dX10_step_6 (by decide) ?_
  refine j_iload_n G 0 1 dX10_step_9 rfl rfl ?_
  refine j_ci (rn_V G hW (ci := 11) (n := 2) (As := [.int (516 : Int32), .int x1_1]) (rest := []) (c_X10_opOf K hW l a0 (516 : Int32) x1_1 k0 I J B _ h) k0 (by decide) rfl ml_X10_58 im_X10_opOf se_X10_opOf in_X10 co_X10_opOf rfl (by decide +kernel) rfl rfl (by decide) (by decide) rfl rfl (Nat.le_of_ble_eq_true rfl) dX10_step_10) (fun r2 _ h => ?_)
  refine j_istore_n G 2 [(2, .int r2), (1, .int x1_1), (0, .ref a0)] dX10_step_13 rfl (by decide) rfl ?_
  refine j_aload_n G 2 0 dX10_step_14 rfl rfl ?_
  refine j_sipush G (516 : Int32) dX10_step_15 (by decide) ?_
  refine j_iload_n G 1 1 dX10_step_18 rfl rfl ?_
  refine j_iconst G (1 : Int32) dX10_step_19 (by decide) ?_
  refine j_ci (rn_V G hW (ci := 11) (n := 3) (As := [.int (516 : Int32), .int x1_1, .int (1 : Int32)]) (rest := []) (c_X10_of K hW l a0 (516 : Int32) x1_1 (1 : Int32) k0 I J B _ h) k0 (by decide) rfl ml_X10_54 im_X10_of se_X10_of in_X10 co_X10_of rfl (by decide +kernel) rfl rfl (by decide) (by decide) rfl rfl (Nat.le_of_ble_eq_true rfl) dX10_step_20) (fun r3 _ h => ?_)
  refine j_istore_n G 3 [(3, .int r3), (2, .int r2), (1, .int x1_1), (0, .ref a0)] dX10_step_23 rfl (by decide) rfl ?_
  refine j_aload_n G 3 0 dX10_step_24 rfl rfl ?_
  refine j_sipush G (516 : Int32) dX10_step_25 (by decide) ?_
  refine j_iload_n G 2 1 dX10_step_28 rfl rfl ?_
  refine j_iconst G (2 : Int32) dX10_step_29 (by decide) ?_
  refine j_ci (rn_V G hW (ci := 11) (n := 3) (As := [.int (516 : Int32), .int x1_1, .int (2 : Int32)]) (rest := []) (c_X10_of K hW l a0 (516 : Int32) x1_1 (2 : Int32) k0 I J B _ h) k0 (by decide) rfl ml_X10_54 im_X10_of se_X10_of in_X10 co_X10_of rfl (by decide +kernel) rfl rfl (by decide) (by decide) rfl rfl (Nat.le_of_ble_eq_true rfl) dX10_step_30) (fun r4 _ h => ?_)
  refine j_istore G [(4, .int r4), (3, .int r3), (2, .int r2), (1, .int x1_1), (0, .ref a0)] dX10_step_33 (by decide) rfl ?_
  refine j_aload_n G 4 0 dX10_step_35 rfl rfl ?_
  refine j_dup G rfl dX10_step_36 ?_
  refine j_get G hW 11 7 0 (.int (I a0 7)) k0 (by decide) rfl (by decide) rfl lay_X10 fl_X10_205 rfl rfl dX10_step_37 ?_
  refine j_iconst G (1 : Int32) dX10_step_40 (by decide) ?_
  refine j_iadd G dX10_step_41 ?_
  refine j_put G hW 11 7 tyX10 (tyX10 7) tyX10_ok nmX10 k0 (by decide) rfl (by decide) rfl lay_X10 fl_X10_205 rfl rfl (tyX10_ok 7 (by decide)) rfl rfl dX10_step_42 ?_
  refine j_mI (fun I5 eI5 => ?_)
  have h := h I5 eI5
  refine j_aload_n G 4 0 dX10_step_45 rfl rfl ?_
  refine j_iload_n G 2 2 dX10_step_46 rfl rfl ?_
  refine j_bipush G (8 : Int32) dX10_step_47 (by decide) ?_
  refine j_icmp_ne G 56 dX10_step_49 (by decide) (fun c6 => ?_) (fun c6 => ?_)
  · have h := h.1 c6
    refine j_iconst G (0 : Int32) dX10_step_56 (by decide) ?_
    refine j_put G hW 11 6 tyX10 (tyX10 6) tyX10_ok nmX10 k0 (by decide) rfl (by decide) rfl lay_X10 fl_X10_208 rfl rfl (tyX10_ok 6 (by decide)) (by decide) (by decide) dX10_step_57 ?_
    refine j_mI (fun I7 eI7 => ?_)
    have h := h I7 eI7
    refine j_iload_n G 2 2 dX10_step_60 rfl rfl ?_
    refine j_bipush G (6 : Int32) dX10_step_61 (by decide) ?_
    refine j_icmp_ne G 79 dX10_step_63 (by decide) (fun c8 => ?_) (fun c8 => ?_)
    · have h := h.1 c8
      exact Jg.sub [4, 3, 2, 1, 0] rfl (m_X10_step_p79 G hW a0 x1_1 r2 r3 r4 k0 I7 h)
    · have h := h.2 c8
      refine j_aload_n G 4 0 dX10_step_66 rfl rfl ?_
      refine j_aload_n G 4 0 dX10_step_67 rfl rfl ?_
      refine j_sipush G (516 : Int32) dX10_step_68 (by decide) ?_
      refine j_iload_n G 3 1 dX10_step_71 rfl rfl ?_
      refine j_iconst G (4 : Int32) dX10_step_72 (by decide) ?_
      refine j_ci (rn_V G hW (ci := 11) (n := 3) (As := [.int (516 : Int32), .int x1_1, .int (4 : Int32)]) (rest := [.ref a0]) (c_X10_of K hW l a0 (516 : Int32) x1_1 (4 : Int32) k0 I7 J B _ h) k0 (by decide) rfl ml_X10_54 im_X10_of se_X10_of in_X10 co_X10_of rfl (by decide +kernel) rfl rfl (by decide) (by decide) rfl rfl (Nat.le_of_ble_eq_true rfl) dX10_step_73) (fun r40 _ h => ?_)
      refine j_put G hW 11 7 tyX10 (tyX10 7) tyX10_ok nmX10 k0 (by decide) rfl (by decide) rfl lay_X10 fl_X10_205 rfl rfl (tyX10_ok 7 (by decide)) rfl rfl dX10_step_76 ?_
      refine j_mI (fun I41 eI41 => ?_)
      have h := h I41 eI41
      exact Jg.sub [4, 3, 2, 1, 0] rfl (m_X10_step_p79 G hW a0 x1_1 r2 r3 r4 k0 I41 h)
  · have h := h.2 c6
    refine j_iconst G (1 : Int32) dX10_step_52 (by decide) ?_
    refine j_goto G 57 dX10_step_53 (by decide) ?_
    refine j_put G hW 11 6 tyX10 (tyX10 6) tyX10_ok nmX10 k0 (by decide) rfl (by decide) rfl lay_X10 fl_X10_208 rfl rfl (tyX10_ok 6 (by decide)) (by decide) (by decide) dX10_step_57 ?_
    refine j_mI (fun I42 eI42 => ?_)
    have h := h I42 eI42
    refine j_iload_n G 2 2 dX10_step_60 rfl rfl ?_
    refine j_bipush G (6 : Int32) dX10_step_61 (by decide) ?_
    refine j_icmp_ne G 79 dX10_step_63 (by decide) (fun c43 => ?_) (fun c43 => ?_)
    · have h := h.1 c43
      exact Jg.sub [4, 3, 2, 1, 0] rfl (m_X10_step_p79 G hW a0 x1_1 r2 r3 r4 k0 I42 h)
    · have h := h.2 c43
      refine j_aload_n G 4 0 dX10_step_66 rfl rfl ?_
      refine j_aload_n G 4 0 dX10_step_67 rfl rfl ?_
      refine j_sipush G (516 : Int32) dX10_step_68 (by decide) ?_
      refine j_iload_n G 3 1 dX10_step_71 rfl rfl ?_
      refine j_iconst G (4 : Int32) dX10_step_72 (by decide) ?_
      refine j_ci (rn_V G hW (ci := 11) (n := 3) (As := [.int (516 : Int32), .int x1_1, .int (4 : Int32)]) (rest := [.ref a0]) (c_X10_of K hW l a0 (516 : Int32) x1_1 (4 : Int32) k0 I42 J B _ h) k0 (by decide) rfl ml_X10_54 im_X10_of se_X10_of in_X10 co_X10_of rfl (by decide +kernel) rfl rfl (by decide) (by decide) rfl rfl (Nat.le_of_ble_eq_true rfl) dX10_step_73) (fun r44 _ h => ?_)
      refine j_put G hW 11 7 tyX10 (tyX10 7) tyX10_ok nmX10 k0 (by decide) rfl (by decide) rfl lay_X10 fl_X10_205 rfl rfl (tyX10_ok 7 (by decide)) rfl rfl dX10_step_76 ?_
      refine j_mI (fun I45 eI45 => ?_)
      have h := h I45 eI45
      exact Jg.sub [4, 3, 2, 1, 0] rfl (m_X10_step_p79 G hW a0 x1_1 r2 r3 r4 k0 I45 h)
abbrev rm_X10_alone : Room := { frames := 5, cells := 0, slots := 0, locals := 112 }
def w_X10_alone_l71 (a0 : Nat) (x1 : Int32) (x2 : Int32)  (ke94 : Int32 → MI → Prop) (Q : Int32 → MI → Prop) (rec : Int32 → MI → Prop) (x4 : Int32) (I : MI) : Prop :=
((x1 ≤ x4 → ke94 x4 I) ∧
(¬ x1 ≤ x4 → ((¬ (I a0 6) = 0 → ke94 x4 I) ∧
((I a0 6) = 0 → (w_X10_step a0 I (fun I11 =>
rec (x4 + 1) I11))))))
set_option maxHeartbeats 4000000 in
set_option maxRecDepth 100000 in
theorem m_X10_alone_l71 {K : Kx} {l : Launch} {m : MethodId} {H0 : Heap} {Q : Int32 → MI → Prop} {w : HW} {J : MJ} {B : MR} (G : Gd l rm_X10_alone K m RX10 cX10_alone 5 H0 (some .int) (va_Qi (S := MI) Q (fun u t => HP K (u, J, B) t.heap) (AA K)) w) (hW : WFK K) (a0 : Nat) (x1 : Int32) (x2 : Int32) (x4 : Int32) (ka0 : (kG K a0).1 = 12) (I : MI) (ke94 : Int32 → MI → Prop) (hke94 : ∀ (x4 : Int32) (I : MI), ke94 x4 I → Jg K m 5 H0 w 94 [(0, .ref a0), (2, .int x2), (4, .int x4)] [] (I, J, B)) (h : Lp2 (w_X10_alone_l71 a0 x1 x2 ke94 Q) x4 I) : Jg K m 5 H0 w 71 [(0, .ref a0), (1, .int x1), (2, .int x2), (4, .int x4)] [] (I, J, B) := by
  obtain ⟨n, h⟩ := h
  refine lpN2_ind (P := (fun (x4 : Int32) (I : MI) => Jg K m 5 H0 w 71 [(0, .ref a0), (1, .int x1), (2, .int x2), (4, .int x4)] [] (I, J, B))) (fun rec hrec x4 I h => ?_) n x4 I h
  unfold w_X10_alone_l71 at h
  refine j_iload G 3 dX10_alone_71 rfl ?_
  refine j_iload_n G 1 1 dX10_alone_73 rfl rfl ?_
  refine j_icmp_ge G 94 dX10_alone_74 (by decide) (fun c9 => ?_) (fun c9 => ?_)
  · have h := h.1 c9
    exact Jg.sub [0, 2, 3] rfl (hke94 x4 I h)
  · have h := h.2 c9
    refine j_aload_n G 0 0 dX10_alone_77 rfl rfl ?_
    refine j_get G hW 11 6 0 (.int (I a0 6)) ka0 (by decide) rfl (by decide) rfl lay_X10 fl_X10_208 rfl rfl dX10_alone_78 ?_
    refine j_if_ne G 94 dX10_alone_81 (by decide) (fun c10 => ?_) (fun c10 => ?_)
    · have h := h.1 c10
      exact Jg.sub [0, 2, 3] rfl (hke94 x4 I h)
    · have h := h.2 c10
      refine j_aload_n G 0 0 dX10_alone_84 rfl rfl ?_
      refine j_cv (rn_V G hW (ci := 11) (n := 0) (As := []) (rest := []) (c_X10_step K hW l a0 ka0 I J B _ h) ka0 (by decide) rfl ml_X10_212 im_X10_step se_X10_step in_X10 co_X10_step rfl (by decide +kernel) rfl rfl (by decide) (by decide) rfl rfl (Nat.le_of_ble_eq_true rfl) dX10_alone_85) (fun I11 h => ?_)
      refine j_iinc G 3 (x4 + 1) [(4, .int (x4 + 1)), (0, .ref a0), (1, .int x1), (2, .int x2)] dX10_alone_88 rfl rfl (by decide) rfl ?_
      refine j_goto G 71 dX10_alone_91 (by decide) ?_
      exact Jg.sub [1, 2, 3, 0] rfl (hrec (x4 + 1) I11 h)
def w_X10_alone_p94 (a0 : Nat) (x2 : Int32) (x4 : Int32)  (I : MI)  (Q : Int32 → MI → Prop) : Prop :=
((x2 < (20 : Int32) → ((x2 < (10 : Int32) → ((¬ x2 = 0 → ((¬ x2 = (1 : Int32) → (((I a0 6) = 0 → Q (I a0 7) I) ∧
(¬ (I a0 6) = 0 → Q (-1 : Int32) I))) ∧
(x2 = (1 : Int32) → (((I a0 6) = 0 → Q (0 : Int32) I) ∧
(¬ (I a0 6) = 0 → Q (1 : Int32) I))))) ∧
(x2 = 0 → Q x4 I))) ∧
(¬ x2 < (10 : Int32) → (vp_in (((726 : Int32) + x2) - (10 : Int32)) 4905 ∧
Q (I (a0 + 1) (ix (((726 : Int32) + x2) - (10 : Int32)))) I)))) ∧
(¬ x2 < (20 : Int32) → (vp_in (((694 : Int32) + x2) - (20 : Int32)) 4905 ∧
Q (I (a0 + 1) (ix (((694 : Int32) + x2) - (20 : Int32)))) I)))
set_option maxHeartbeats 4000000 in
set_option maxRecDepth 100000 in
theorem m_X10_alone_p94 {K : Kx} {l : Launch} {m : MethodId} {H0 : Heap} {Q : Int32 → MI → Prop} {w : HW} {J : MJ} {B : MR} (G : Gd l rm_X10_alone K m RX10 cX10_alone 5 H0 (some .int) (va_Qi (S := MI) Q (fun u t => HP K (u, J, B) t.heap) (AA K)) w) (hW : WFK K) (a0 : Nat) (x2 : Int32) (x4 : Int32)  (ka0 : (kG K a0).1 = 12)  (I : MI)   (h : w_X10_alone_p94 a0 x2 x4 I Q) : Jg K m 5 H0 w 94 [(0, .ref a0), (2, .int x2), (4, .int x4)] [] (I, J, B) := by
  unfold w_X10_alone_p94 at h
  refine j_iload_n G 1 2 dX10_alone_94 rfl rfl ?_
  refine j_bipush G (20 : Int32) dX10_alone_95 (by decide) ?_
  refine j_icmp_lt G 114 dX10_alone_97 (by decide) (fun c14 => ?_) (fun c14 => ?_)
  · have h := h.1 c14
    refine j_iload_n G 1 2 dX10_alone_114 rfl rfl ?_
    refine j_bipush G (10 : Int32) dX10_alone_115 (by decide) ?_
    refine j_icmp_lt G 134 dX10_alone_117 (by decide) (fun c15 => ?_) (fun c15 => ?_)
    · have h := h.1 c15
      refine j_iload_n G 1 2 dX10_alone_134 rfl rfl ?_
      refine j_if_ne G 143 dX10_alone_135 (by decide) (fun c16 => ?_) (fun c16 => ?_)
      · have h := h.1 c16
        refine j_iload_n G 1 2 dX10_alone_143 rfl rfl ?_
        refine j_iconst G (1 : Int32) dX10_alone_144 (by decide) ?_
        refine j_icmp_ne G 163 dX10_alone_145 (by decide) (fun c17 => ?_) (fun c17 => ?_)
        · have h := h.1 c17
          refine j_aload_n G 0 0 dX10_alone_163 rfl rfl ?_
          refine j_get G hW 11 6 0 (.int (I a0 6)) ka0 (by decide) rfl (by decide) rfl lay_X10 fl_X10_208 rfl rfl dX10_alone_164 ?_
          refine j_if_eq G 174 dX10_alone_167 (by decide) (fun c18 => ?_) (fun c18 => ?_)
          · have h := h.1 c18
            refine j_aload_n G 0 0 dX10_alone_174 rfl rfl ?_
            refine j_get G hW 11 7 0 (.int (I a0 7)) ka0 (by decide) rfl (by decide) rfl lay_X10 fl_X10_205 rfl rfl dX10_alone_175 ?_
            exact j_reti G I rfl dX10_alone_178 h rfl
          · have h := h.2 c18
            refine j_iconst G (-1 : Int32) dX10_alone_170 (by decide) ?_
            refine j_goto G 178 dX10_alone_171 (by decide) ?_
            exact j_reti G I rfl dX10_alone_178 h rfl
        · have h := h.2 c17
          refine j_aload_n G 0 0 dX10_alone_148 rfl rfl ?_
          refine j_get G hW 11 6 0 (.int (I a0 6)) ka0 (by decide) rfl (by decide) rfl lay_X10 fl_X10_208 rfl rfl dX10_alone_149 ?_
          refine j_if_eq G 159 dX10_alone_152 (by decide) (fun c19 => ?_) (fun c19 => ?_)
          · have h := h.1 c19
            refine j_iconst G (0 : Int32) dX10_alone_159 (by decide) ?_
            refine j_goto G 178 dX10_alone_160 (by decide) ?_
            exact j_reti G I rfl dX10_alone_178 h rfl
          · have h := h.2 c19
            refine j_iconst G (1 : Int32) dX10_alone_155 (by decide) ?_
            refine j_goto G 178 dX10_alone_156 (by decide) ?_
            exact j_reti G I rfl dX10_alone_178 h rfl
      · have h := h.2 c16
        refine j_iload G 2 dX10_alone_138 rfl ?_
        refine j_goto G 178 dX10_alone_140 (by decide) ?_
        exact j_reti G I rfl dX10_alone_178 h rfl
    · have h := h.2 c15
      refine j_aload_n G 0 0 dX10_alone_120 rfl rfl ?_
      have kk20 : kG K (a0 + 1) = (20, 4905) := wk_12_1 hW ka0
      refine j_get G hW 11 0 4 (.ref (a0 + 1)) ka0 (by decide) rfl (by decide) rfl lay_X10 fl_X10_7 rfl rfl dX10_alone_121 ?_
      refine j_sipush G (726 : Int32) dX10_alone_124 (by decide) ?_
      refine j_iload_n G 1 2 dX10_alone_127 rfl rfl ?_
      refine j_iadd G dX10_alone_128 ?_
      refine j_bipush G (10 : Int32) dX10_alone_129 (by decide) ?_
      refine j_isub G dX10_alone_131 ?_
      obtain ⟨b21, h⟩ := h
      refine j_iald G hW kk20 b21 dX10_alone_132 ?_
      exact j_reti G I rfl dX10_alone_133 h rfl
  · have h := h.2 c14
    refine j_aload_n G 0 0 dX10_alone_100 rfl rfl ?_
    have kk22 : kG K (a0 + 1) = (20, 4905) := wk_12_1 hW ka0
    refine j_get G hW 11 0 4 (.ref (a0 + 1)) ka0 (by decide) rfl (by decide) rfl lay_X10 fl_X10_7 rfl rfl dX10_alone_101 ?_
    refine j_sipush G (694 : Int32) dX10_alone_104 (by decide) ?_
    refine j_iload_n G 1 2 dX10_alone_107 rfl rfl ?_
    refine j_iadd G dX10_alone_108 ?_
    refine j_bipush G (20 : Int32) dX10_alone_109 (by decide) ?_
    refine j_isub G dX10_alone_111 ?_
    obtain ⟨b23, h⟩ := h
    refine j_iald G hW kk22 b23 dX10_alone_112 ?_
    exact j_reti G I rfl dX10_alone_113 h rfl
def w_X10_alone_p36 (a0 : Nat) (x1 : Int32) (x2 : Int32) (s0 : Int32) (I : MI)  (Q : Int32 → MI → Prop) : Prop :=
(w_X10_isIn x1 (0 : Int32) (400 : Int32) (fun r3 =>
((r3 = 0 → Q (-1 : Int32) I) ∧
(¬ r3 = 0 → ((¬ s0 = 0 → (w_X10_tries a0 I (fun I6 =>
(∀ I7, I7 = ui I6 a0 7 (0 : Int32) →
(∀ I8, I8 = ui I7 a0 6 (0 : Int32) →
Lp2 (w_X10_alone_l71 a0 x1 x2 (fun x4_12 I13 => w_X10_alone_p94 a0 x2 x4_12 I13 Q) Q) (0 : Int32) I8))))) ∧
(s0 = 0 → Q (-1 : Int32) I))))))
set_option maxHeartbeats 4000000 in
set_option maxRecDepth 100000 in
theorem m_X10_alone_p36 {K : Kx} {l : Launch} {m : MethodId} {H0 : Heap} {Q : Int32 → MI → Prop} {w : HW} {J : MJ} {B : MR} (G : Gd l rm_X10_alone K m RX10 cX10_alone 5 H0 (some .int) (va_Qi (S := MI) Q (fun u t => HP K (u, J, B) t.heap) (AA K)) w) (hW : WFK K) (a0 : Nat) (x1 : Int32) (x2 : Int32) (s0 : Int32) (ka0 : (kG K a0).1 = 12)  (I : MI)   (h : w_X10_alone_p36 a0 x1 x2 s0 I Q) : Jg K m 5 H0 w 36 [(0, .ref a0), (1, .int x1), (2, .int x2)] [.int s0] (I, J, B) := by
  unfold w_X10_alone_p36 at h
  refine j_istore_n G 3 [(3, .int s0), (0, .ref a0), (1, .int x1), (2, .int x2)] dX10_alone_36 rfl (by decide) rfl ?_
  refine j_iload_n G 2 1 dX10_alone_37 rfl rfl ?_
  refine j_iconst G (0 : Int32) dX10_alone_38 (by decide) ?_
  refine j_sipush G (400 : Int32) dX10_alone_39 (by decide) ?_
  refine j_ci (rn_S G (n := 3) (As := [.int x1, .int (0 : Int32), .int (400 : Int32)]) (rest := []) (c_X10_isIn K hW l x1 (0 : Int32) (400 : Int32) I J B _ h) ml_X10_190 st_X10_isIn in_X10 co_X10_isIn (by decide +kernel) rfl rfl (by decide) (by decide) rfl rfl (Nat.le_of_ble_eq_true rfl) dX10_alone_42) (fun r3 _ h => ?_)
  refine j_if_eq G 52 dX10_alone_45 (by decide) (fun c4 => ?_) (fun c4 => ?_)
  · have h := h.1 c4
    refine j_iconst G (-1 : Int32) dX10_alone_52 (by decide) ?_
    exact j_reti G I rfl dX10_alone_53 h rfl
  · have h := h.2 c4
    refine j_iload_n G 0 3 dX10_alone_48 rfl rfl ?_
    refine j_if_ne G 54 dX10_alone_49 (by decide) (fun c5 => ?_) (fun c5 => ?_)
    · have h := h.1 c5
      refine j_aload_n G 1 0 dX10_alone_54 rfl rfl ?_
      refine j_cv (rn_V G hW (ci := 11) (n := 0) (As := []) (rest := []) (c_X10_tries K hW l a0 ka0 I J B _ h) ka0 (by decide) rfl ml_X10_183 im_X10_tries se_X10_tries in_X10 co_X10_tries rfl (by decide +kernel) rfl rfl (by decide) (by decide) rfl rfl (Nat.le_of_ble_eq_true rfl) dX10_alone_55) (fun I6 h => ?_)
      refine j_aload_n G 1 0 dX10_alone_58 rfl rfl ?_
      refine j_iconst G (0 : Int32) dX10_alone_59 (by decide) ?_
      refine j_put G hW 11 7 tyX10 (tyX10 7) tyX10_ok nmX10 ka0 (by decide) rfl (by decide) rfl lay_X10 fl_X10_205 rfl rfl (tyX10_ok 7 (by decide)) rfl rfl dX10_alone_60 ?_
      refine j_mI (fun I7 eI7 => ?_)
      have h := h I7 eI7
      refine j_aload_n G 1 0 dX10_alone_63 rfl rfl ?_
      refine j_iconst G (0 : Int32) dX10_alone_64 (by decide) ?_
      refine j_put G hW 11 6 tyX10 (tyX10 6) tyX10_ok nmX10 ka0 (by decide) rfl (by decide) rfl lay_X10 fl_X10_208 rfl rfl (tyX10_ok 6 (by decide)) (by decide) (by decide) dX10_alone_65 ?_
      refine j_mI (fun I8 eI8 => ?_)
      have h := h I8 eI8
      refine j_iconst G (0 : Int32) dX10_alone_68 (by decide) ?_
      refine j_istore G [(4, .int (0 : Int32)), (3, .int s0), (0, .ref a0), (1, .int x1), (2, .int x2)] dX10_alone_69 (by decide) rfl ?_
      refine Jg.sub [2, 3, 4, 0] rfl (m_X10_alone_l71 G hW a0 x1 x2 (0 : Int32) ka0 I8 _ ?_ h)
      intro x4_12 I13 h
      exact m_X10_alone_p94 G hW a0 x2 x4_12 ka0 I13 h
    · have h := h.2 c5
      refine j_iconst G (-1 : Int32) dX10_alone_52 (by decide) ?_
      exact j_reti G I rfl dX10_alone_53 h rfl
def w_X10_alone (a0 : Nat) (x1 : Int32) (x2 : Int32) (I : MI) (Q : Int32 → MI → Prop) : Prop :=
(w_X10_isIn x2 (0 : Int32) (2 : Int32) (fun r1 =>
((¬ r1 = 0 → w_X10_alone_p36 a0 x1 x2 (1 : Int32) I Q) ∧
(r1 = 0 → (w_X10_isIn x2 (10 : Int32) (17 : Int32) (fun r24 =>
((¬ r24 = 0 → w_X10_alone_p36 a0 x1 x2 (1 : Int32) I Q) ∧
(r24 = 0 → (w_X10_isIn x2 (20 : Int32) (51 : Int32) (fun r26 =>
((r26 = 0 → w_X10_alone_p36 a0 x1 x2 (0 : Int32) I Q) ∧
(¬ r26 = 0 → w_X10_alone_p36 a0 x1 x2 (1 : Int32) I Q))))))))))))
set_option maxHeartbeats 4000000 in
set_option maxRecDepth 100000 in
theorem c_X10_alone (K : Kx) (hW : WFK K) (l : Launch) (a0 : Nat) (x1 : Int32) (x2 : Int32) (k0 : (kG K a0).1 = 12) (I : MI) (J : MJ) (B : MR) (Q : Int32 → MI → Prop) (h : w_X10_alone a0 x1 x2 I Q) : Con K l yX10_alone (wsT yX10_alone cX10_alone 5 (some .int)) rm_X10_alone [.ref a0, .int x1, .int x2] (I, J, B) (va_Qi (S := MI) Q (fun u t => HP K (u, J, B) t.heap) (AA K)) := by
  refine Con.ofJ RX10 rfl (by decide) (Nat.le_of_ble_eq_true rfl) (fun m H0 w G => ?_)
  unfold w_X10_alone at h
  show Jg K m 5 H0 w 0 [(0, .ref a0), (1, .int x1), (2, .int x2)] [] (I, J, B)
  refine j_iload_n G 2 2 dX10_alone_0 rfl rfl ?_
  refine j_iconst G (0 : Int32) dX10_alone_1 (by decide) ?_
  refine j_iconst G (2 : Int32) dX10_alone_2 (by decide) ?_
  refine j_ci (rn_S G (n := 3) (As := [.int x2, .int (0 : Int32), .int (2 : Int32)]) (rest := []) (c_X10_isIn K hW l x2 (0 : Int32) (2 : Int32) I J B _ h) ml_X10_190 st_X10_isIn in_X10 co_X10_isIn (by decide +kernel) rfl rfl (by decide) (by decide) rfl rfl (Nat.le_of_ble_eq_true rfl) dX10_alone_3) (fun r1 _ h => ?_)
  refine j_if_ne G 31 dX10_alone_6 (by decide) (fun c2 => ?_) (fun c2 => ?_)
  · have h := h.1 c2
    refine j_iconst G (1 : Int32) dX10_alone_31 (by decide) ?_
    refine j_goto G 36 dX10_alone_32 (by decide) ?_
    exact m_X10_alone_p36 G hW a0 x1 x2 (1 : Int32) k0 I h
  · have h := h.2 c2
    refine j_iload_n G 2 2 dX10_alone_9 rfl rfl ?_
    refine j_bipush G (10 : Int32) dX10_alone_10 (by decide) ?_
    refine j_bipush G (17 : Int32) dX10_alone_12 (by decide) ?_
    refine j_ci (rn_S G (n := 3) (As := [.int x2, .int (10 : Int32), .int (17 : Int32)]) (rest := []) (c_X10_isIn K hW l x2 (10 : Int32) (17 : Int32) I J B _ h) ml_X10_190 st_X10_isIn in_X10 co_X10_isIn (by decide +kernel) rfl rfl (by decide) (by decide) rfl rfl (Nat.le_of_ble_eq_true rfl) dX10_alone_14) (fun r24 _ h => ?_)
    refine j_if_ne G 31 dX10_alone_17 (by decide) (fun c25 => ?_) (fun c25 => ?_)
    · have h := h.1 c25
      refine j_iconst G (1 : Int32) dX10_alone_31 (by decide) ?_
      refine j_goto G 36 dX10_alone_32 (by decide) ?_
      exact m_X10_alone_p36 G hW a0 x1 x2 (1 : Int32) k0 I h
    · have h := h.2 c25
      refine j_iload_n G 2 2 dX10_alone_20 rfl rfl ?_
      refine j_bipush G (20 : Int32) dX10_alone_21 (by decide) ?_
      refine j_bipush G (51 : Int32) dX10_alone_23 (by decide) ?_
      refine j_ci (rn_S G (n := 3) (As := [.int x2, .int (20 : Int32), .int (51 : Int32)]) (rest := []) (c_X10_isIn K hW l x2 (20 : Int32) (51 : Int32) I J B _ h) ml_X10_190 st_X10_isIn in_X10 co_X10_isIn (by decide +kernel) rfl rfl (by decide) (by decide) rfl rfl (Nat.le_of_ble_eq_true rfl) dX10_alone_25) (fun r26 _ h => ?_)
      refine j_if_eq G 35 dX10_alone_28 (by decide) (fun c27 => ?_) (fun c27 => ?_)
      · have h := h.1 c27
        refine j_iconst G (0 : Int32) dX10_alone_35 (by decide) ?_
        exact m_X10_alone_p36 G hW a0 x1 x2 (0 : Int32) k0 I h
      · have h := h.2 c27
        refine j_iconst G (1 : Int32) dX10_alone_31 (by decide) ?_
        refine j_goto G 36 dX10_alone_32 (by decide) ?_
        exact m_X10_alone_p36 G hW a0 x1 x2 (1 : Int32) k0 I h
abbrev rm_X10_next : Room := { frames := 2, cells := 0, slots := 0, locals := 45 }
def w_X10_next_p28 (a0 : Nat) (x1 : Int32) (x2 : Int32) (s0 : Int32) (I : MI)  (Q : Int32 →  Prop) : Prop :=
((x2 = (6 : Int32) → (w_X10_of a0 (0 : Int32) x1 (4 : Int32) I (fun r4 =>
Q (s0 ||| ((1 : Int32) <<< (r4 &&& 31)))))) ∧
(¬ x2 = (6 : Int32) → ((¬ x2 = (7 : Int32) → Q s0) ∧
(x2 = (7 : Int32) → (w_X10_of a0 (0 : Int32) x1 (4 : Int32) I (fun r6 =>
Q (s0 ||| ((1 : Int32) <<< (r6 &&& 31)))))))))
set_option maxHeartbeats 4000000 in
set_option maxRecDepth 100000 in
theorem m_X10_next_p28 {K : Kx} {l : Launch} {m : MethodId} {H0 : Heap} {Q : Int32 →  Prop} {w : HW} {I : MI} {J : MJ} {B : MR} (G : Gd l rm_X10_next K m RX10 cX10_next 4 H0 (some .int) (va_Qi (S := Unit) (fun r _ => Q r) (fun u t => HP K (I, J, B) t.heap) (AA K)) w) (hW : WFK K) (a0 : Nat) (x1 : Int32) (x2 : Int32) (s0 : Int32) (ka0 : (kG K a0).1 = 12)     (h : w_X10_next_p28 a0 x1 x2 s0 I Q) : Jg K m 4 H0 w 28 [(0, .ref a0), (1, .int x1), (2, .int x2)] [.int s0] (I, J, B) := by
  unfold w_X10_next_p28 at h
  refine j_istore_n G 3 [(3, .int s0), (0, .ref a0), (1, .int x1), (2, .int x2)] dX10_next_28 rfl (by decide) rfl ?_
  refine j_iload_n G 3 2 dX10_next_29 rfl rfl ?_
  refine j_bipush G (6 : Int32) dX10_next_30 (by decide) ?_
  refine j_icmp_eq G 41 dX10_next_32 (by decide) (fun c3 => ?_) (fun c3 => ?_)
  · have h := h.1 c3
    refine j_iload_n G 0 3 dX10_next_41 rfl rfl ?_
    refine j_iconst G (1 : Int32) dX10_next_42 (by decide) ?_
    refine j_aload_n G 1 0 dX10_next_43 rfl rfl ?_
    refine j_iconst G (0 : Int32) dX10_next_44 (by decide) ?_
    refine j_iload_n G 2 1 dX10_next_45 rfl rfl ?_
    refine j_iconst G (4 : Int32) dX10_next_46 (by decide) ?_
    refine j_ci (rn_V G hW (ci := 11) (n := 3) (As := [.int (0 : Int32), .int x1, .int (4 : Int32)]) (rest := [.int (1 : Int32), .int s0]) (c_X10_of K hW l a0 (0 : Int32) x1 (4 : Int32) ka0 I J B _ h) ka0 (by decide) rfl ml_X10_54 im_X10_of se_X10_of in_X10 co_X10_of rfl (by decide +kernel) rfl rfl (by decide) (by decide) rfl rfl (Nat.le_of_ble_eq_true rfl) dX10_next_47) (fun r4 _ h => ?_)
    refine j_ishl G dX10_next_50 ?_
    refine j_ior G dX10_next_51 ?_
    refine j_goto G 56 dX10_next_52 (by decide) ?_
    exact j_reti G () rfl dX10_next_56 h rfl
  · have h := h.2 c3
    refine j_iload_n G 3 2 dX10_next_35 rfl rfl ?_
    refine j_bipush G (7 : Int32) dX10_next_36 (by decide) ?_
    refine j_icmp_ne G 55 dX10_next_38 (by decide) (fun c5 => ?_) (fun c5 => ?_)
    · have h := h.1 c5
      refine j_iload_n G 0 3 dX10_next_55 rfl rfl ?_
      exact j_reti G () rfl dX10_next_56 h rfl
    · have h := h.2 c5
      refine j_iload_n G 0 3 dX10_next_41 rfl rfl ?_
      refine j_iconst G (1 : Int32) dX10_next_42 (by decide) ?_
      refine j_aload_n G 1 0 dX10_next_43 rfl rfl ?_
      refine j_iconst G (0 : Int32) dX10_next_44 (by decide) ?_
      refine j_iload_n G 2 1 dX10_next_45 rfl rfl ?_
      refine j_iconst G (4 : Int32) dX10_next_46 (by decide) ?_
      refine j_ci (rn_V G hW (ci := 11) (n := 3) (As := [.int (0 : Int32), .int x1, .int (4 : Int32)]) (rest := [.int (1 : Int32), .int s0]) (c_X10_of K hW l a0 (0 : Int32) x1 (4 : Int32) ka0 I J B _ h) ka0 (by decide) rfl ml_X10_54 im_X10_of se_X10_of in_X10 co_X10_of rfl (by decide +kernel) rfl rfl (by decide) (by decide) rfl rfl (Nat.le_of_ble_eq_true rfl) dX10_next_47) (fun r6 _ h => ?_)
      refine j_ishl G dX10_next_50 ?_
      refine j_ior G dX10_next_51 ?_
      refine j_goto G 56 dX10_next_52 (by decide) ?_
      exact j_reti G () rfl dX10_next_56 h rfl
def w_X10_next (a0 : Nat) (x1 : Int32) (I : MI) (Q : Int32 →  Prop) : Prop :=
(w_X10_opOf a0 (0 : Int32) x1 I (fun r1 =>
((r1 = (8 : Int32) → w_X10_next_p28 a0 x1 r1 (0 : Int32) I Q) ∧
(¬ r1 = (8 : Int32) → ((¬ r1 = (6 : Int32) → w_X10_next_p28 a0 x1 r1 ((1 : Int32) <<< ((x1 + (1 : Int32)) &&& 31)) I Q) ∧
(r1 = (6 : Int32) → w_X10_next_p28 a0 x1 r1 (0 : Int32) I Q))))))
set_option maxHeartbeats 4000000 in
set_option maxRecDepth 100000 in
theorem c_X10_next (K : Kx) (hW : WFK K) (l : Launch) (a0 : Nat) (x1 : Int32) (k0 : (kG K a0).1 = 12) (I : MI) (J : MJ) (B : MR) (Q : Int32 →  Prop) (h : w_X10_next a0 x1 I Q) : Con K l yX10_next (wsT yX10_next cX10_next 4 (some .int)) rm_X10_next [.ref a0, .int x1] (I, J, B) (va_Qi (S := Unit) (fun r _ => Q r) (fun u t => HP K (I, J, B) t.heap) (AA K)) := by
  refine Con.ofJ RX10 rfl (by decide) (Nat.le_of_ble_eq_true rfl) (fun m H0 w G => ?_)
  unfold w_X10_next at h
  show Jg K m 4 H0 w 0 [(0, .ref a0), (1, .int x1)] [] (I, J, B)
  refine j_aload_n G 0 0 dX10_next_0 rfl rfl ?_
  refine j_iconst G (0 : Int32) dX10_next_1 (by decide) ?_
  refine j_iload_n G 1 1 dX10_next_2 rfl rfl ?_
  refine j_ci (rn_V G hW (ci := 11) (n := 2) (As := [.int (0 : Int32), .int x1]) (rest := []) (c_X10_opOf K hW l a0 (0 : Int32) x1 k0 I J B _ h) k0 (by decide) rfl ml_X10_58 im_X10_opOf se_X10_opOf in_X10 co_X10_opOf rfl (by decide +kernel) rfl rfl (by decide) (by decide) rfl rfl (Nat.le_of_ble_eq_true rfl) dX10_next_3) (fun r1 _ h => ?_)
  refine j_istore_n G 2 [(2, .int r1), (0, .ref a0), (1, .int x1)] dX10_next_6 rfl (by decide) rfl ?_
  refine j_iload_n G 0 2 dX10_next_7 rfl rfl ?_
  refine j_bipush G (8 : Int32) dX10_next_8 (by decide) ?_
  refine j_icmp_eq G 19 dX10_next_10 (by decide) (fun c2 => ?_) (fun c2 => ?_)
  · have h := h.1 c2
    refine j_iconst G (0 : Int32) dX10_next_19 (by decide) ?_
    refine j_goto G 28 dX10_next_20 (by decide) ?_
    exact Jg.sub [1, 2, 0] rfl (m_X10_next_p28 G hW a0 x1 r1 (0 : Int32) k0 h)
  · have h := h.2 c2
    refine j_iload_n G 0 2 dX10_next_13 rfl rfl ?_
    refine j_bipush G (6 : Int32) dX10_next_14 (by decide) ?_
    refine j_icmp_ne G 23 dX10_next_16 (by decide) (fun c7 => ?_) (fun c7 => ?_)
    · have h := h.1 c7
      refine j_iconst G (1 : Int32) dX10_next_23 (by decide) ?_
      refine j_iload_n G 2 1 dX10_next_24 rfl rfl ?_
      refine j_iconst G (1 : Int32) dX10_next_25 (by decide) ?_
      refine j_iadd G dX10_next_26 ?_
      refine j_ishl G dX10_next_27 ?_
      exact Jg.sub [1, 2, 0] rfl (m_X10_next_p28 G hW a0 x1 r1 ((1 : Int32) <<< ((x1 + (1 : Int32)) &&& 31)) k0 h)
    · have h := h.2 c7
      refine j_iconst G (0 : Int32) dX10_next_19 (by decide) ?_
      refine j_goto G 28 dX10_next_20 (by decide) ?_
      exact Jg.sub [1, 2, 0] rfl (m_X10_next_p28 G hW a0 x1 r1 (0 : Int32) k0 h)
abbrev rm_X10_reach : Room := { frames := 3, cells := 0, slots := 0, locals := 68 }
def w_X10_reach_l18 (a0 : Nat) (x3 : Int32) (I : MI) (ke58 : Int32 → Int32 → Prop) (Q : Int32 →  Prop) (rec : Int32 → Int32 → Prop) (x2 : Int32) (x4 : Int32) : Prop :=
(((I (a0 + 1) (ix (48 : Int32))) ≤ x4 → ke58 x2 x4) ∧
(¬ (I (a0 + 1) (ix (48 : Int32))) ≤ x4 → (w_X10_has x3 x4 (fun r6 =>
((r6 = 0 → (∀ x2_8, x2_8 = x2 ||| (0 : Int32) →
rec x2_8 (x4 + 1))) ∧
(¬ r6 = 0 → (w_X10_next a0 x4 I (fun r9 =>
(∀ x2_10, x2_10 = x2 ||| r9 →
rec x2_10 (x4 + 1))))))))))
set_option maxHeartbeats 4000000 in
set_option maxRecDepth 100000 in
theorem m_X10_reach_l18 {K : Kx} {l : Launch} {m : MethodId} {H0 : Heap} {Q : Int32 →  Prop} {w : HW} {I : MI} {J : MJ} {B : MR} (G : Gd l rm_X10_reach K m RX10 cX10_reach 5 H0 (some .int) (va_Qi (S := Unit) (fun r _ => Q r) (fun u t => HP K (I, J, B) t.heap) (AA K)) w) (hW : WFK K) (a0 : Nat) (x2 : Int32) (x3 : Int32) (x4 : Int32) (ka0 : (kG K a0).1 = 12)  (ke58 : Int32 → Int32 → Prop) (hke58 : ∀ (x2 : Int32) (x4 : Int32), ke58 x2 x4 → Jg K m 5 H0 w 58 [(0, .ref a0), (2, .int x2), (3, .int x3)] [] (I, J, B)) (h : Lp2 (w_X10_reach_l18 a0 x3 I ke58 Q) x2 x4) : Jg K m 5 H0 w 18 [(0, .ref a0), (2, .int x2), (3, .int x3), (4, .int x4)] [] (I, J, B) := by
  obtain ⟨n, h⟩ := h
  refine lpN2_ind (P := (fun (x2 : Int32) (x4 : Int32) => Jg K m 5 H0 w 18 [(0, .ref a0), (2, .int x2), (3, .int x3), (4, .int x4)] [] (I, J, B))) (fun rec hrec x2 x4 h => ?_) n x2 x4 h
  unfold w_X10_reach_l18 at h
  refine j_iload G 3 dX10_reach_18 rfl ?_
  refine j_aload_n G 0 0 dX10_reach_20 rfl rfl ?_
  have kk4 : kG K (a0 + 1) = (20, 4905) := wk_12_1 hW ka0
  refine j_get G hW 11 0 4 (.ref (a0 + 1)) ka0 (by decide) rfl (by decide) rfl lay_X10 fl_X10_7 rfl rfl dX10_reach_21 ?_
  refine j_bipush G (48 : Int32) dX10_reach_24 (by decide) ?_
  refine j_iald G hW kk4 (vpc rfl) dX10_reach_26 ?_
  refine j_icmp_ge G 58 dX10_reach_27 (by decide) (fun c5 => ?_) (fun c5 => ?_)
  · have h := h.1 c5
    exact Jg.sub [0, 1, 2] rfl (hke58 x2 x4 h)
  · have h := h.2 c5
    refine j_iload_n G 1 2 dX10_reach_30 rfl rfl ?_
    refine j_iload_n G 2 3 dX10_reach_31 rfl rfl ?_
    refine j_iload G 3 dX10_reach_32 rfl ?_
    refine j_ci (rn_S G (n := 2) (As := [.int x3, .int x4]) (rest := [.int x2]) (c_X10_has K hW l x3 x4 I J B _ h) ml_X10_66 st_X10_has in_X10 co_X10_has (by decide +kernel) rfl rfl (by decide) (by decide) rfl rfl (Nat.le_of_ble_eq_true rfl) dX10_reach_34) (fun r6 _ h => ?_)
    refine j_if_eq G 49 dX10_reach_37 (by decide) (fun c7 => ?_) (fun c7 => ?_)
    · have h := h.1 c7
      refine j_iconst G (0 : Int32) dX10_reach_49 (by decide) ?_
      refine j_ior G dX10_reach_50 ?_
      refine j_nm (fun x2_8 ex2_8 => ?_)
      have h := h x2_8 ex2_8
      refine j_istore_n G 2 [(2, .int x2_8), (0, .ref a0), (3, .int x3), (4, .int x4)] dX10_reach_51 rfl (by decide) rfl ?_
      refine j_iinc G 3 (x4 + 1) [(4, .int (x4 + 1)), (2, .int x2_8), (0, .ref a0), (3, .int x3)] dX10_reach_52 rfl rfl (by decide) rfl ?_
      refine j_goto G 18 dX10_reach_55 (by decide) ?_
      exact Jg.sub [2, 1, 3, 0] rfl (hrec x2_8 (x4 + 1) h)
    · have h := h.2 c7
      refine j_aload_n G 0 0 dX10_reach_40 rfl rfl ?_
      refine j_iload G 3 dX10_reach_41 rfl ?_
      refine j_ci (rn_V G hW (ci := 11) (n := 1) (As := [.int x4]) (rest := [.int x2]) (c_X10_next K hW l a0 x4 ka0 I J B _ h) ka0 (by decide) rfl ml_X10_215 im_X10_next se_X10_next in_X10 co_X10_next rfl (by decide +kernel) rfl rfl (by decide) (by decide) rfl rfl (Nat.le_of_ble_eq_true rfl) dX10_reach_43) (fun r9 _ h => ?_)
      refine j_goto G 50 dX10_reach_46 (by decide) ?_
      refine j_ior G dX10_reach_50 ?_
      refine j_nm (fun x2_10 ex2_10 => ?_)
      have h := h x2_10 ex2_10
      refine j_istore_n G 2 [(2, .int x2_10), (0, .ref a0), (3, .int x3), (4, .int x4)] dX10_reach_51 rfl (by decide) rfl ?_
      refine j_iinc G 3 (x4 + 1) [(4, .int (x4 + 1)), (2, .int x2_10), (0, .ref a0), (3, .int x3)] dX10_reach_52 rfl rfl (by decide) rfl ?_
      refine j_goto G 18 dX10_reach_55 (by decide) ?_
      exact Jg.sub [2, 1, 3, 0] rfl (hrec x2_10 (x4 + 1) h)
def w_X10_reach_l8 (a0 : Nat) (I : MI)  (Q : Int32 →  Prop) (rec : Int32 → Int32 → Prop) (x2 : Int32) (x3 : Int32) : Prop :=
((x3 = x2 → Q (x2 &&& (((1 : Int32) <<< ((I (a0 + 1) (ix (48 : Int32))) &&& 31)) - (1 : Int32)))) ∧
(¬ x3 = x2 → Lp2 (w_X10_reach_l18 a0 x2 I (fun x2_11 x4_12 => rec x2_11 x2) Q) x2 (0 : Int32)))
set_option maxHeartbeats 4000000 in
set_option maxRecDepth 100000 in
theorem m_X10_reach_l8 {K : Kx} {l : Launch} {m : MethodId} {H0 : Heap} {Q : Int32 →  Prop} {w : HW} {I : MI} {J : MJ} {B : MR} (G : Gd l rm_X10_reach K m RX10 cX10_reach 5 H0 (some .int) (va_Qi (S := Unit) (fun r _ => Q r) (fun u t => HP K (I, J, B) t.heap) (AA K)) w) (hW : WFK K) (a0 : Nat) (x2 : Int32) (x3 : Int32) (ka0 : (kG K a0).1 = 12)    (h : Lp2 (w_X10_reach_l8 a0 I Q) x2 x3) : Jg K m 5 H0 w 8 [(0, .ref a0), (2, .int x2), (3, .int x3)] [] (I, J, B) := by
  obtain ⟨n, h⟩ := h
  refine lpN2_ind (P := (fun (x2 : Int32) (x3 : Int32) => Jg K m 5 H0 w 8 [(0, .ref a0), (2, .int x2), (3, .int x3)] [] (I, J, B))) (fun rec hrec x2 x3 h => ?_) n x2 x3 h
  unfold w_X10_reach_l8 at h
  refine j_iload_n G 2 3 dX10_reach_8 rfl rfl ?_
  refine j_iload_n G 1 2 dX10_reach_9 rfl rfl ?_
  refine j_icmp_eq G 61 dX10_reach_10 (by decide) (fun c2 => ?_) (fun c2 => ?_)
  · have h := h.1 c2
    refine j_iload_n G 1 2 dX10_reach_61 rfl rfl ?_
    refine j_iconst G (1 : Int32) dX10_reach_62 (by decide) ?_
    refine j_aload_n G 0 0 dX10_reach_63 rfl rfl ?_
    have kk3 : kG K (a0 + 1) = (20, 4905) := wk_12_1 hW ka0
    refine j_get G hW 11 0 4 (.ref (a0 + 1)) ka0 (by decide) rfl (by decide) rfl lay_X10 fl_X10_7 rfl rfl dX10_reach_64 ?_
    refine j_bipush G (48 : Int32) dX10_reach_67 (by decide) ?_
    refine j_iald G hW kk3 (vpc rfl) dX10_reach_69 ?_
    refine j_ishl G dX10_reach_70 ?_
    refine j_iconst G (1 : Int32) dX10_reach_71 (by decide) ?_
    refine j_isub G dX10_reach_72 ?_
    refine j_iand G dX10_reach_73 ?_
    exact j_reti G () rfl dX10_reach_74 h rfl
  · have h := h.2 c2
    refine j_iload_n G 1 2 dX10_reach_13 rfl rfl ?_
    refine j_istore_n G 3 [(3, .int x2), (0, .ref a0), (2, .int x2)] dX10_reach_14 rfl (by decide) rfl ?_
    refine j_iconst G (0 : Int32) dX10_reach_15 (by decide) ?_
    refine j_istore G [(4, .int (0 : Int32)), (3, .int x2), (0, .ref a0), (2, .int x2)] dX10_reach_16 (by decide) rfl ?_
    refine Jg.sub [2, 3, 1, 0] rfl (m_X10_reach_l18 G hW a0 x2 x2 (0 : Int32) ka0 _ ?_ h)
    intro x2_11 x4_12 h
    refine j_goto G 8 dX10_reach_58 (by decide) ?_
    exact hrec x2_11 x2 h
def w_X10_reach (a0 : Nat) (x1 : Int32) (I : MI) (Q : Int32 →  Prop) : Prop :=
(w_X10_next a0 x1 I (fun r1 =>
Lp2 (w_X10_reach_l8 a0 I Q) r1 (-1 : Int32)))
set_option maxHeartbeats 4000000 in
set_option maxRecDepth 100000 in
theorem c_X10_reach (K : Kx) (hW : WFK K) (l : Launch) (a0 : Nat) (x1 : Int32) (k0 : (kG K a0).1 = 12) (I : MI) (J : MJ) (B : MR) (Q : Int32 →  Prop) (h : w_X10_reach a0 x1 I Q) : Con K l yX10_reach (wsT yX10_reach cX10_reach 5 (some .int)) rm_X10_reach [.ref a0, .int x1] (I, J, B) (va_Qi (S := Unit) (fun r _ => Q r) (fun u t => HP K (I, J, B) t.heap) (AA K)) := by
  refine Con.ofJ RX10 rfl (by decide) (Nat.le_of_ble_eq_true rfl) (fun m H0 w G => ?_)
  unfold w_X10_reach at h
  show Jg K m 5 H0 w 0 [(0, .ref a0), (1, .int x1)] [] (I, J, B)
  refine j_aload_n G 0 0 dX10_reach_0 rfl rfl ?_
  refine j_iload_n G 1 1 dX10_reach_1 rfl rfl ?_
  refine j_ci (rn_V G hW (ci := 11) (n := 1) (As := [.int x1]) (rest := []) (c_X10_next K hW l a0 x1 k0 I J B _ h) k0 (by decide) rfl ml_X10_215 im_X10_next se_X10_next in_X10 co_X10_next rfl (by decide +kernel) rfl rfl (by decide) (by decide) rfl rfl (Nat.le_of_ble_eq_true rfl) dX10_reach_2) (fun r1 _ h => ?_)
  refine j_istore_n G 2 [(2, .int r1), (0, .ref a0), (1, .int x1)] dX10_reach_5 rfl (by decide) rfl ?_
  refine j_iconst G (-1 : Int32) dX10_reach_6 (by decide) ?_
  refine j_istore_n G 3 [(3, .int (-1 : Int32)), (2, .int r1), (0, .ref a0), (1, .int x1)] dX10_reach_7 rfl (by decide) rfl ?_
  refine Jg.sub [2, 1, 0] rfl (m_X10_reach_l8 G hW a0 r1 (-1 : Int32) k0 h)
abbrev rm_X10_isLosing : Room := { frames := 5, cells := 0, slots := 0, locals := 121 }
def w_X10_isLosing_p29  (s0 : Int32) (I : MI)  (Q : Int32 →  Prop) : Prop :=
((s0 = (12 : Int32) → Q (1 : Int32)) ∧
(¬ s0 = (12 : Int32) → ((¬ s0 = (3 : Int32) → Q (0 : Int32)) ∧
(s0 = (3 : Int32) → Q (1 : Int32)))))
set_option maxHeartbeats 4000000 in
set_option maxRecDepth 100000 in
theorem m_X10_isLosing_p29 {K : Kx} {l : Launch} {m : MethodId} {H0 : Heap} {Q : Int32 →  Prop} {w : HW} {I : MI} {J : MJ} {B : MR} (G : Gd l rm_X10_isLosing K m RX10 cX10_isLosing 4 H0 (some .boolean) (va_Qi (S := Unit) (fun r _ => Q r) (fun u t => HP K (I, J, B) t.heap) (AA K)) w) (hW : WFK K)  (s0 : Int32)      (h : w_X10_isLosing_p29 s0 I Q) : Jg K m 4 H0 w 29 [] [.int s0] (I, J, B) := by
  unfold w_X10_isLosing_p29 at h
  refine j_istore_n G 3 [(3, .int s0)] dX10_isLosing_29 rfl (by decide) rfl ?_
  refine j_iload_n G 0 3 dX10_isLosing_30 rfl rfl ?_
  refine j_bipush G (12 : Int32) dX10_isLosing_31 (by decide) ?_
  refine j_icmp_eq G 41 dX10_isLosing_33 (by decide) (fun c4 => ?_) (fun c4 => ?_)
  · have h := h.1 c4
    refine j_iconst G (1 : Int32) dX10_isLosing_41 (by decide) ?_
    refine j_goto G 46 dX10_isLosing_42 (by decide) ?_
    exact j_reti G () (by decide) dX10_isLosing_46 h rfl
  · have h := h.2 c4
    refine j_iload_n G 0 3 dX10_isLosing_36 rfl rfl ?_
    refine j_iconst G (3 : Int32) dX10_isLosing_37 (by decide) ?_
    refine j_icmp_ne G 45 dX10_isLosing_38 (by decide) (fun c5 => ?_) (fun c5 => ?_)
    · have h := h.1 c5
      refine j_iconst G (0 : Int32) dX10_isLosing_45 (by decide) ?_
      exact j_reti G () (by decide) dX10_isLosing_46 h rfl
    · have h := h.2 c5
      refine j_iconst G (1 : Int32) dX10_isLosing_41 (by decide) ?_
      refine j_goto G 46 dX10_isLosing_42 (by decide) ?_
      exact j_reti G () (by decide) dX10_isLosing_46 h rfl
def w_X10_isLosing (a0 : Nat) (x1 : Int32) (I : MI) (Q : Int32 →  Prop) : Prop :=
(w_X10_many a0 (0 : Int32) (0 : Int32) x1 I (fun r1 =>
((¬ r1 = 0 → (w_X10_deed a0 (0 : Int32) (0 : Int32) x1 (r1 - (1 : Int32)) I (fun r3 =>
w_X10_isLosing_p29 (r3 - r3 / (16 : Int32) * (16 : Int32)) I Q))) ∧
(r1 = 0 → w_X10_isLosing_p29 (0 : Int32) I Q))))
set_option maxHeartbeats 4000000 in
set_option maxRecDepth 100000 in
theorem c_X10_isLosing (K : Kx) (hW : WFK K) (l : Launch) (a0 : Nat) (x1 : Int32) (k0 : (kG K a0).1 = 12) (I : MI) (J : MJ) (B : MR) (Q : Int32 →  Prop) (h : w_X10_isLosing a0 x1 I Q) : Con K l yX10_isLosing (wsT yX10_isLosing cX10_isLosing 4 (some .boolean)) rm_X10_isLosing [.ref a0, .int x1] (I, J, B) (va_Qi (S := Unit) (fun r _ => Q r) (fun u t => HP K (I, J, B) t.heap) (AA K)) := by
  refine Con.ofJ RX10 rfl (by decide) (Nat.le_of_ble_eq_true rfl) (fun m H0 w G => ?_)
  unfold w_X10_isLosing at h
  show Jg K m 4 H0 w 0 [(0, .ref a0), (1, .int x1)] [] (I, J, B)
  refine j_aload_n G 0 0 dX10_isLosing_0 rfl rfl ?_
  refine j_iconst G (0 : Int32) dX10_isLosing_1 (by decide) ?_
  refine j_iconst G (0 : Int32) dX10_isLosing_2 (by decide) ?_
  refine j_iload_n G 1 1 dX10_isLosing_3 rfl rfl ?_
  refine j_ci (rn_V G hW (ci := 11) (n := 3) (As := [.int (0 : Int32), .int (0 : Int32), .int x1]) (rest := []) (c_X10_many K hW l a0 (0 : Int32) (0 : Int32) x1 k0 I J B _ h) k0 (by decide) rfl ml_X10_218 im_X10_many se_X10_many in_X10 co_X10_many rfl (by decide +kernel) rfl rfl (by decide) (by decide) rfl rfl (Nat.le_of_ble_eq_true rfl) dX10_isLosing_4) (fun r1 _ h => ?_)
  refine j_istore_n G 2 [(2, .int r1), (0, .ref a0), (1, .int x1)] dX10_isLosing_7 rfl (by decide) rfl ?_
  refine j_iload_n G 0 2 dX10_isLosing_8 rfl rfl ?_
  refine j_if_ne G 16 dX10_isLosing_9 (by decide) (fun c2 => ?_) (fun c2 => ?_)
  · have h := h.1 c2
    refine j_aload_n G 1 0 dX10_isLosing_16 rfl rfl ?_
    refine j_iconst G (0 : Int32) dX10_isLosing_17 (by decide) ?_
    refine j_iconst G (0 : Int32) dX10_isLosing_18 (by decide) ?_
    refine j_iload_n G 2 1 dX10_isLosing_19 rfl rfl ?_
    refine j_iload_n G 0 2 dX10_isLosing_20 rfl rfl ?_
    refine j_iconst G (1 : Int32) dX10_isLosing_21 (by decide) ?_
    refine j_isub G dX10_isLosing_22 ?_
    refine j_ci (rn_V G hW (ci := 11) (n := 4) (As := [.int (0 : Int32), .int (0 : Int32), .int x1, .int (r1 - (1 : Int32))]) (rest := []) (c_X10_deed K hW l a0 (0 : Int32) (0 : Int32) x1 (r1 - (1 : Int32)) k0 I J B _ h) k0 (by decide) rfl ml_X10_80 im_X10_deed se_X10_deed in_X10 co_X10_deed rfl (by decide +kernel) rfl rfl (by decide) (by decide) rfl rfl (Nat.le_of_ble_eq_true rfl) dX10_isLosing_23) (fun r3 _ h => ?_)
    refine j_bipush G (16 : Int32) dX10_isLosing_26 (by decide) ?_
    refine j_irem G (by decide) dX10_isLosing_28 ?_
    exact Jg.sub [] rfl (m_X10_isLosing_p29 G hW (r3 - r3 / (16 : Int32) * (16 : Int32)) h)
  · have h := h.2 c2
    refine j_iconst G (0 : Int32) dX10_isLosing_12 (by decide) ?_
    refine j_goto G 29 dX10_isLosing_13 (by decide) ?_
    exact Jg.sub [] rfl (m_X10_isLosing_p29 G hW (0 : Int32) h)
abbrev rm_X10_rounds : Room := { frames := 6, cells := 0, slots := 0, locals := 144 }
def w_X10_rounds_l64 (a0 : Nat) (x1 : Int32) (x2 : Int32) (x3 : Int32) (I : MI) (ke134 : Int32 → Int32 → Prop) (Q : Int32 →  Prop) (rec : Int32 → Int32 → Prop) (x4 : Int32) (x5 : Int32) : Prop :=
(((I (a0 + 1) (ix (48 : Int32))) ≤ x5 → ke134 x4 x5) ∧
(¬ (I (a0 + 1) (ix (48 : Int32))) ≤ x5 → ((¬ x1 = (1 : Int32) → ke134 x4 x5) ∧
(x1 = (1 : Int32) → ((¬ x4 = 0 → rec (1 : Int32) (x5 + 1)) ∧
(x4 = 0 → (w_X10_isLosing a0 x5 I (fun r13 =>
((r13 = 0 → rec (0 : Int32) (x5 + 1)) ∧
(¬ r13 = 0 → (w_X10_reach a0 x3 I (fun r15 =>
(w_X10_has r15 x5 (fun r16 =>
((r16 = 0 → rec (0 : Int32) (x5 + 1)) ∧
(¬ r16 = 0 → (w_X10_reach a0 x5 I (fun r18 =>
(w_X10_has r18 x3 (fun r19 =>
((r19 = 0 → rec (0 : Int32) (x5 + 1)) ∧
(¬ r19 = 0 → rec (1 : Int32) (x5 + 1)))))))))))))))))))))))
set_option maxHeartbeats 4000000 in
set_option maxRecDepth 100000 in
theorem m_X10_rounds_l64 {K : Kx} {l : Launch} {m : MethodId} {H0 : Heap} {Q : Int32 →  Prop} {w : HW} {I : MI} {J : MJ} {B : MR} (G : Gd l rm_X10_rounds K m RX10 cX10_rounds 6 H0 (some .int) (va_Qi (S := Unit) (fun r _ => Q r) (fun u t => HP K (I, J, B) t.heap) (AA K)) w) (hW : WFK K) (a0 : Nat) (x1 : Int32) (x2 : Int32) (x3 : Int32) (x4 : Int32) (x5 : Int32) (ka0 : (kG K a0).1 = 12)  (ke134 : Int32 → Int32 → Prop) (hke134 : ∀ (x4 : Int32) (x5 : Int32), ke134 x4 x5 → Jg K m 6 H0 w 134 [(0, .ref a0), (1, .int x1), (2, .int x2), (3, .int x3), (4, .int x4)] [] (I, J, B)) (h : Lp2 (w_X10_rounds_l64 a0 x1 x2 x3 I ke134 Q) x4 x5) : Jg K m 6 H0 w 64 [(0, .ref a0), (1, .int x1), (2, .int x2), (3, .int x3), (4, .int x4), (5, .int x5)] [] (I, J, B) := by
  obtain ⟨n, h⟩ := h
  refine lpN2_ind (P := (fun (x4 : Int32) (x5 : Int32) => Jg K m 6 H0 w 64 [(0, .ref a0), (1, .int x1), (2, .int x2), (3, .int x3), (4, .int x4), (5, .int x5)] [] (I, J, B))) (fun rec hrec x4 x5 h => ?_) n x4 x5 h
  unfold w_X10_rounds_l64 at h
  refine j_iload G 5 dX10_rounds_64 rfl ?_
  refine j_aload_n G 0 0 dX10_rounds_66 rfl rfl ?_
  have kk9 : kG K (a0 + 1) = (20, 4905) := wk_12_1 hW ka0
  refine j_get G hW 11 0 4 (.ref (a0 + 1)) ka0 (by decide) rfl (by decide) rfl lay_X10 fl_X10_7 rfl rfl dX10_rounds_67 ?_
  refine j_bipush G (48 : Int32) dX10_rounds_70 (by decide) ?_
  refine j_iald G hW kk9 (vpc rfl) dX10_rounds_72 ?_
  refine j_icmp_ge G 134 dX10_rounds_73 (by decide) (fun c10 => ?_) (fun c10 => ?_)
  · have h := h.1 c10
    exact Jg.sub [0, 1, 2, 3, 4] rfl (hke134 x4 x5 h)
  · have h := h.2 c10
    refine j_iload_n G 1 1 dX10_rounds_76 rfl rfl ?_
    refine j_iconst G (1 : Int32) dX10_rounds_77 (by decide) ?_
    refine j_icmp_ne G 134 dX10_rounds_78 (by decide) (fun c11 => ?_) (fun c11 => ?_)
    · have h := h.1 c11
      exact Jg.sub [0, 1, 2, 3, 4] rfl (hke134 x4 x5 h)
    · have h := h.2 c11
      refine j_iload G 4 dX10_rounds_81 rfl ?_
      refine j_if_ne G 121 dX10_rounds_83 (by decide) (fun c12 => ?_) (fun c12 => ?_)
      · have h := h.1 c12
        refine j_iconst G (1 : Int32) dX10_rounds_121 (by decide) ?_
        refine j_goto G 126 dX10_rounds_122 (by decide) ?_
        refine j_istore G [(4, .int (1 : Int32)), (0, .ref a0), (1, .int x1), (2, .int x2), (3, .int x3), (5, .int x5)] dX10_rounds_126 (by decide) rfl ?_
        refine j_iinc G 5 (x5 + 1) [(5, .int (x5 + 1)), (4, .int (1 : Int32)), (0, .ref a0), (1, .int x1), (2, .int x2), (3, .int x3)] dX10_rounds_128 rfl rfl (by decide) rfl ?_
        refine j_goto G 64 dX10_rounds_131 (by decide) ?_
        exact Jg.sub [2, 3, 4, 5, 1, 0] rfl (hrec (1 : Int32) (x5 + 1) h)
      · have h := h.2 c12
        refine j_aload_n G 0 0 dX10_rounds_86 rfl rfl ?_
        refine j_iload G 5 dX10_rounds_87 rfl ?_
        refine j_ci (rn_V G hW (ci := 11) (n := 1) (As := [.int x5]) (rest := []) (c_X10_isLosing K hW l a0 x5 ka0 I J B _ h) ka0 (by decide) rfl ml_X10_224 im_X10_isLosing se_X10_isLosing in_X10 co_X10_isLosing rfl (by decide +kernel) rfl rfl (by decide) (by decide) rfl rfl (Nat.le_of_ble_eq_true rfl) dX10_rounds_89) (fun r13 _ h => ?_)
        refine j_if_eq G 125 dX10_rounds_92 (by decide) (fun c14 => ?_) (fun c14 => ?_)
        · have h := h.1 c14
          refine j_iconst G (0 : Int32) dX10_rounds_125 (by decide) ?_
          refine j_istore G [(4, .int (0 : Int32)), (0, .ref a0), (1, .int x1), (2, .int x2), (3, .int x3), (5, .int x5)] dX10_rounds_126 (by decide) rfl ?_
          refine j_iinc G 5 (x5 + 1) [(5, .int (x5 + 1)), (4, .int (0 : Int32)), (0, .ref a0), (1, .int x1), (2, .int x2), (3, .int x3)] dX10_rounds_128 rfl rfl (by decide) rfl ?_
          refine j_goto G 64 dX10_rounds_131 (by decide) ?_
          exact Jg.sub [2, 3, 4, 5, 1, 0] rfl (hrec (0 : Int32) (x5 + 1) h)
        · have h := h.2 c14
          refine j_aload_n G 0 0 dX10_rounds_95 rfl rfl ?_
          refine j_iload_n G 3 3 dX10_rounds_96 rfl rfl ?_
          refine j_ci (rn_V G hW (ci := 11) (n := 1) (As := [.int x3]) (rest := []) (c_X10_reach K hW l a0 x3 ka0 I J B _ h) ka0 (by decide) rfl ml_X10_221 im_X10_reach se_X10_reach in_X10 co_X10_reach rfl (by decide +kernel) rfl rfl (by decide) (by decide) rfl rfl (Nat.le_of_ble_eq_true rfl) dX10_rounds_97) (fun r15 _ h => ?_)
          refine j_iload G 5 dX10_rounds_100 rfl ?_
          refine j_ci (rn_S G (n := 2) (As := [.int r15, .int x5]) (rest := []) (c_X10_has K hW l r15 x5 I J B _ h) ml_X10_66 st_X10_has in_X10 co_X10_has (by decide +kernel) rfl rfl (by decide) (by decide) rfl rfl (Nat.le_of_ble_eq_true rfl) dX10_rounds_102) (fun r16 _ h => ?_)
          refine j_if_eq G 125 dX10_rounds_105 (by decide) (fun c17 => ?_) (fun c17 => ?_)
          · have h := h.1 c17
            refine j_iconst G (0 : Int32) dX10_rounds_125 (by decide) ?_
            refine j_istore G [(4, .int (0 : Int32)), (0, .ref a0), (1, .int x1), (2, .int x2), (3, .int x3), (5, .int x5)] dX10_rounds_126 (by decide) rfl ?_
            refine j_iinc G 5 (x5 + 1) [(5, .int (x5 + 1)), (4, .int (0 : Int32)), (0, .ref a0), (1, .int x1), (2, .int x2), (3, .int x3)] dX10_rounds_128 rfl rfl (by decide) rfl ?_
            refine j_goto G 64 dX10_rounds_131 (by decide) ?_
            exact Jg.sub [2, 3, 4, 5, 1, 0] rfl (hrec (0 : Int32) (x5 + 1) h)
          · have h := h.2 c17
            refine j_aload_n G 0 0 dX10_rounds_108 rfl rfl ?_
            refine j_iload G 5 dX10_rounds_109 rfl ?_
            refine j_ci (rn_V G hW (ci := 11) (n := 1) (As := [.int x5]) (rest := []) (c_X10_reach K hW l a0 x5 ka0 I J B _ h) ka0 (by decide) rfl ml_X10_221 im_X10_reach se_X10_reach in_X10 co_X10_reach rfl (by decide +kernel) rfl rfl (by decide) (by decide) rfl rfl (Nat.le_of_ble_eq_true rfl) dX10_rounds_111) (fun r18 _ h => ?_)
            refine j_iload_n G 3 3 dX10_rounds_114 rfl rfl ?_
            refine j_ci (rn_S G (n := 2) (As := [.int r18, .int x3]) (rest := []) (c_X10_has K hW l r18 x3 I J B _ h) ml_X10_66 st_X10_has in_X10 co_X10_has (by decide +kernel) rfl rfl (by decide) (by decide) rfl rfl (Nat.le_of_ble_eq_true rfl) dX10_rounds_115) (fun r19 _ h => ?_)
            refine j_if_eq G 125 dX10_rounds_118 (by decide) (fun c20 => ?_) (fun c20 => ?_)
            · have h := h.1 c20
              refine j_iconst G (0 : Int32) dX10_rounds_125 (by decide) ?_
              refine j_istore G [(4, .int (0 : Int32)), (0, .ref a0), (1, .int x1), (2, .int x2), (3, .int x3), (5, .int x5)] dX10_rounds_126 (by decide) rfl ?_
              refine j_iinc G 5 (x5 + 1) [(5, .int (x5 + 1)), (4, .int (0 : Int32)), (0, .ref a0), (1, .int x1), (2, .int x2), (3, .int x3)] dX10_rounds_128 rfl rfl (by decide) rfl ?_
              refine j_goto G 64 dX10_rounds_131 (by decide) ?_
              exact Jg.sub [2, 3, 4, 5, 1, 0] rfl (hrec (0 : Int32) (x5 + 1) h)
            · have h := h.2 c20
              refine j_iconst G (1 : Int32) dX10_rounds_121 (by decide) ?_
              refine j_goto G 126 dX10_rounds_122 (by decide) ?_
              refine j_istore G [(4, .int (1 : Int32)), (0, .ref a0), (1, .int x1), (2, .int x2), (3, .int x3), (5, .int x5)] dX10_rounds_126 (by decide) rfl ?_
              refine j_iinc G 5 (x5 + 1) [(5, .int (x5 + 1)), (4, .int (1 : Int32)), (0, .ref a0), (1, .int x1), (2, .int x2), (3, .int x3)] dX10_rounds_128 rfl rfl (by decide) rfl ?_
              refine j_goto G 64 dX10_rounds_131 (by decide) ?_
              exact Jg.sub [2, 3, 4, 5, 1, 0] rfl (hrec (1 : Int32) (x5 + 1) h)
def w_X10_rounds_p134 (a0 : Nat) (x1 : Int32) (x2 : Int32) (x3 : Int32) (x4 : Int32)  (I : MI) (rec : Int32 → Int32 → Prop) (Q : Int32 →  Prop) : Prop :=
((x4 = 0 → (∀ x2_24, x2_24 = x2 ||| (0 : Int32) →
rec x2_24 (x3 + 1))) ∧
(¬ x4 = 0 → (∀ x2_25, x2_25 = x2 ||| ((1 : Int32) <<< (x3 &&& 31)) →
rec x2_25 (x3 + 1))))
set_option maxHeartbeats 4000000 in
set_option maxRecDepth 100000 in
theorem m_X10_rounds_p134 {K : Kx} {l : Launch} {m : MethodId} {H0 : Heap} {Q : Int32 →  Prop} {w : HW} {I : MI} {J : MJ} {B : MR} (G : Gd l rm_X10_rounds K m RX10 cX10_rounds 6 H0 (some .int) (va_Qi (S := Unit) (fun r _ => Q r) (fun u t => HP K (I, J, B) t.heap) (AA K)) w) (hW : WFK K) (a0 : Nat) (x1 : Int32) (x2 : Int32) (x3 : Int32) (x4 : Int32)  (ka0 : (kG K a0).1 = 12)   (rec : Int32 → Int32 → Prop) (hrec : ∀ (x2 : Int32) (x3 : Int32), rec x2 x3 → Jg K m 6 H0 w 16 [(0, .ref a0), (1, .int x1), (2, .int x2), (3, .int x3)] [] (I, J, B)) (h : w_X10_rounds_p134 a0 x1 x2 x3 x4 I rec Q) : Jg K m 6 H0 w 134 [(0, .ref a0), (1, .int x1), (2, .int x2), (3, .int x3), (4, .int x4)] [] (I, J, B) := by
  unfold w_X10_rounds_p134 at h
  refine j_iload_n G 2 2 dX10_rounds_134 rfl rfl ?_
  refine j_iload G 4 dX10_rounds_135 rfl ?_
  refine j_if_eq G 146 dX10_rounds_137 (by decide) (fun c23 => ?_) (fun c23 => ?_)
  · have h := h.1 c23
    refine j_iconst G (0 : Int32) dX10_rounds_146 (by decide) ?_
    refine j_ior G dX10_rounds_147 ?_
    refine j_nm (fun x2_24 ex2_24 => ?_)
    have h := h x2_24 ex2_24
    refine j_istore_n G 2 [(2, .int x2_24), (0, .ref a0), (1, .int x1), (3, .int x3), (4, .int x4)] dX10_rounds_148 rfl (by decide) rfl ?_
    refine j_iinc G 3 (x3 + 1) [(3, .int (x3 + 1)), (2, .int x2_24), (0, .ref a0), (1, .int x1), (4, .int x4)] dX10_rounds_149 rfl rfl (by decide) rfl ?_
    refine j_goto G 16 dX10_rounds_152 (by decide) ?_
    exact Jg.sub [2, 3, 1, 0] rfl (hrec x2_24 (x3 + 1) h)
  · have h := h.2 c23
    refine j_iconst G (1 : Int32) dX10_rounds_140 (by decide) ?_
    refine j_iload_n G 3 3 dX10_rounds_141 rfl rfl ?_
    refine j_ishl G dX10_rounds_142 ?_
    refine j_goto G 147 dX10_rounds_143 (by decide) ?_
    refine j_ior G dX10_rounds_147 ?_
    refine j_nm (fun x2_25 ex2_25 => ?_)
    have h := h x2_25 ex2_25
    refine j_istore_n G 2 [(2, .int x2_25), (0, .ref a0), (1, .int x1), (3, .int x3), (4, .int x4)] dX10_rounds_148 rfl (by decide) rfl ?_
    refine j_iinc G 3 (x3 + 1) [(3, .int (x3 + 1)), (2, .int x2_25), (0, .ref a0), (1, .int x1), (4, .int x4)] dX10_rounds_149 rfl rfl (by decide) rfl ?_
    refine j_goto G 16 dX10_rounds_152 (by decide) ?_
    exact Jg.sub [2, 3, 1, 0] rfl (hrec x2_25 (x3 + 1) h)
def w_X10_rounds_l16 (a0 : Nat) (x1 : Int32) (I : MI)  (Q : Int32 →  Prop) (rec : Int32 → Int32 → Prop) (x2 : Int32) (x3 : Int32) : Prop :=
(((I (a0 + 1) (ix (48 : Int32))) ≤ x3 → Q x2) ∧
(¬ (I (a0 + 1) (ix (48 : Int32))) ≤ x3 → (w_X10_reach a0 x3 I (fun r5 =>
(w_X10_has r5 x3 (fun r6 =>
((¬ r6 = 0 → ((x1 = 0 → Lp2 (w_X10_rounds_l64 a0 x1 x2 x3 I (fun x4_21 x5_22 => w_X10_rounds_p134 a0 x1 x2 x3 x4_21 I rec Q) Q) (1 : Int32) (0 : Int32)) ∧
(¬ x1 = 0 → (w_X10_isLosing a0 x3 I (fun r26 =>
((r26 = 0 → Lp2 (w_X10_rounds_l64 a0 x1 x2 x3 I (fun x4_28 x5_29 => w_X10_rounds_p134 a0 x1 x2 x3 x4_28 I rec Q) Q) (0 : Int32) (0 : Int32)) ∧
(¬ r26 = 0 → Lp2 (w_X10_rounds_l64 a0 x1 x2 x3 I (fun x4_30 x5_31 => w_X10_rounds_p134 a0 x1 x2 x3 x4_30 I rec Q) Q) (1 : Int32) (0 : Int32)))))))) ∧
(r6 = 0 → rec x2 (x3 + 1)))))))))
set_option maxHeartbeats 4000000 in
set_option maxRecDepth 100000 in
theorem m_X10_rounds_l16 {K : Kx} {l : Launch} {m : MethodId} {H0 : Heap} {Q : Int32 →  Prop} {w : HW} {I : MI} {J : MJ} {B : MR} (G : Gd l rm_X10_rounds K m RX10 cX10_rounds 6 H0 (some .int) (va_Qi (S := Unit) (fun r _ => Q r) (fun u t => HP K (I, J, B) t.heap) (AA K)) w) (hW : WFK K) (a0 : Nat) (x1 : Int32) (x2 : Int32) (x3 : Int32) (ka0 : (kG K a0).1 = 12)    (h : Lp2 (w_X10_rounds_l16 a0 x1 I Q) x2 x3) : Jg K m 6 H0 w 16 [(0, .ref a0), (1, .int x1), (2, .int x2), (3, .int x3)] [] (I, J, B) := by
  obtain ⟨n, h⟩ := h
  refine lpN2_ind (P := (fun (x2 : Int32) (x3 : Int32) => Jg K m 6 H0 w 16 [(0, .ref a0), (1, .int x1), (2, .int x2), (3, .int x3)] [] (I, J, B))) (fun rec hrec x2 x3 h => ?_) n x2 x3 h
  unfold w_X10_rounds_l16 at h
  refine j_iload_n G 3 3 dX10_rounds_16 rfl rfl ?_
  refine j_aload_n G 0 0 dX10_rounds_17 rfl rfl ?_
  have kk3 : kG K (a0 + 1) = (20, 4905) := wk_12_1 hW ka0
  refine j_get G hW 11 0 4 (.ref (a0 + 1)) ka0 (by decide) rfl (by decide) rfl lay_X10 fl_X10_7 rfl rfl dX10_rounds_18 ?_
  refine j_bipush G (48 : Int32) dX10_rounds_21 (by decide) ?_
  refine j_iald G hW kk3 (vpc rfl) dX10_rounds_23 ?_
  refine j_icmp_ge G 155 dX10_rounds_24 (by decide) (fun c4 => ?_) (fun c4 => ?_)
  · have h := h.1 c4
    refine j_iload_n G 2 2 dX10_rounds_155 rfl rfl ?_
    exact j_reti G () rfl dX10_rounds_156 h rfl
  · have h := h.2 c4
    refine j_aload_n G 0 0 dX10_rounds_27 rfl rfl ?_
    refine j_iload_n G 3 3 dX10_rounds_28 rfl rfl ?_
    refine j_ci (rn_V G hW (ci := 11) (n := 1) (As := [.int x3]) (rest := []) (c_X10_reach K hW l a0 x3 ka0 I J B _ h) ka0 (by decide) rfl ml_X10_221 im_X10_reach se_X10_reach in_X10 co_X10_reach rfl (by decide +kernel) rfl rfl (by decide) (by decide) rfl rfl (Nat.le_of_ble_eq_true rfl) dX10_rounds_29) (fun r5 _ h => ?_)
    refine j_iload_n G 3 3 dX10_rounds_32 rfl rfl ?_
    refine j_ci (rn_S G (n := 2) (As := [.int r5, .int x3]) (rest := []) (c_X10_has K hW l r5 x3 I J B _ h) ml_X10_66 st_X10_has in_X10 co_X10_has (by decide +kernel) rfl rfl (by decide) (by decide) rfl rfl (Nat.le_of_ble_eq_true rfl) dX10_rounds_33) (fun r6 _ h => ?_)
    refine j_if_ne G 42 dX10_rounds_36 (by decide) (fun c7 => ?_) (fun c7 => ?_)
    · have h := h.1 c7
      refine j_iload_n G 1 1 dX10_rounds_42 rfl rfl ?_
      refine j_if_eq G 54 dX10_rounds_43 (by decide) (fun c8 => ?_) (fun c8 => ?_)
      · have h := h.1 c8
        refine j_iconst G (1 : Int32) dX10_rounds_54 (by decide) ?_
        refine j_goto G 59 dX10_rounds_55 (by decide) ?_
        refine j_istore G [(4, .int (1 : Int32)), (0, .ref a0), (1, .int x1), (2, .int x2), (3, .int x3)] dX10_rounds_59 (by decide) rfl ?_
        refine j_iconst G (0 : Int32) dX10_rounds_61 (by decide) ?_
        refine j_istore G [(5, .int (0 : Int32)), (4, .int (1 : Int32)), (0, .ref a0), (1, .int x1), (2, .int x2), (3, .int x3)] dX10_rounds_62 (by decide) rfl ?_
        refine Jg.sub [2, 3, 4, 5, 1, 0] rfl (m_X10_rounds_l64 G hW a0 x1 x2 x3 (1 : Int32) (0 : Int32) ka0 _ ?_ h)
        intro x4_21 x5_22 h
        exact m_X10_rounds_p134 G hW a0 x1 x2 x3 x4_21 ka0 rec hrec h
      · have h := h.2 c8
        refine j_aload_n G 0 0 dX10_rounds_46 rfl rfl ?_
        refine j_iload_n G 3 3 dX10_rounds_47 rfl rfl ?_
        refine j_ci (rn_V G hW (ci := 11) (n := 1) (As := [.int x3]) (rest := []) (c_X10_isLosing K hW l a0 x3 ka0 I J B _ h) ka0 (by decide) rfl ml_X10_224 im_X10_isLosing se_X10_isLosing in_X10 co_X10_isLosing rfl (by decide +kernel) rfl rfl (by decide) (by decide) rfl rfl (Nat.le_of_ble_eq_true rfl) dX10_rounds_48) (fun r26 _ h => ?_)
        refine j_if_eq G 58 dX10_rounds_51 (by decide) (fun c27 => ?_) (fun c27 => ?_)
        · have h := h.1 c27
          refine j_iconst G (0 : Int32) dX10_rounds_58 (by decide) ?_
          refine j_istore G [(4, .int (0 : Int32)), (0, .ref a0), (1, .int x1), (2, .int x2), (3, .int x3)] dX10_rounds_59 (by decide) rfl ?_
          refine j_iconst G (0 : Int32) dX10_rounds_61 (by decide) ?_
          refine j_istore G [(5, .int (0 : Int32)), (4, .int (0 : Int32)), (0, .ref a0), (1, .int x1), (2, .int x2), (3, .int x3)] dX10_rounds_62 (by decide) rfl ?_
          refine Jg.sub [2, 3, 4, 5, 1, 0] rfl (m_X10_rounds_l64 G hW a0 x1 x2 x3 (0 : Int32) (0 : Int32) ka0 _ ?_ h)
          intro x4_28 x5_29 h
          exact m_X10_rounds_p134 G hW a0 x1 x2 x3 x4_28 ka0 rec hrec h
        · have h := h.2 c27
          refine j_iconst G (1 : Int32) dX10_rounds_54 (by decide) ?_
          refine j_goto G 59 dX10_rounds_55 (by decide) ?_
          refine j_istore G [(4, .int (1 : Int32)), (0, .ref a0), (1, .int x1), (2, .int x2), (3, .int x3)] dX10_rounds_59 (by decide) rfl ?_
          refine j_iconst G (0 : Int32) dX10_rounds_61 (by decide) ?_
          refine j_istore G [(5, .int (0 : Int32)), (4, .int (1 : Int32)), (0, .ref a0), (1, .int x1), (2, .int x2), (3, .int x3)] dX10_rounds_62 (by decide) rfl ?_
          refine Jg.sub [2, 3, 4, 5, 1, 0] rfl (m_X10_rounds_l64 G hW a0 x1 x2 x3 (1 : Int32) (0 : Int32) ka0 _ ?_ h)
          intro x4_30 x5_31 h
          exact m_X10_rounds_p134 G hW a0 x1 x2 x3 x4_30 ka0 rec hrec h
    · have h := h.2 c7
      refine j_goto G 149 dX10_rounds_39 (by decide) ?_
      refine j_iinc G 3 (x3 + 1) [(3, .int (x3 + 1)), (0, .ref a0), (1, .int x1), (2, .int x2)] dX10_rounds_149 rfl rfl (by decide) rfl ?_
      refine j_goto G 16 dX10_rounds_152 (by decide) ?_
      exact Jg.sub [1, 2, 3, 0] rfl (hrec x2 (x3 + 1) h)
def w_X10_rounds (a0 : Nat) (x1 : Int32) (I : MI) (Q : Int32 →  Prop) : Prop :=
(w_X10_isIn x1 (0 : Int32) (2 : Int32) (fun r1 =>
((¬ r1 = 0 → Lp2 (w_X10_rounds_l16 a0 x1 I Q) (0 : Int32) (0 : Int32)) ∧
(r1 = 0 → Q (-2 : Int32)))))
set_option maxHeartbeats 4000000 in
set_option maxRecDepth 100000 in
theorem c_X10_rounds (K : Kx) (hW : WFK K) (l : Launch) (a0 : Nat) (x1 : Int32) (k0 : (kG K a0).1 = 12) (I : MI) (J : MJ) (B : MR) (Q : Int32 →  Prop) (h : w_X10_rounds a0 x1 I Q) : Con K l yX10_rounds (wsT yX10_rounds cX10_rounds 6 (some .int)) rm_X10_rounds [.ref a0, .int x1] (I, J, B) (va_Qi (S := Unit) (fun r _ => Q r) (fun u t => HP K (I, J, B) t.heap) (AA K)) := by
  refine Con.ofJ RX10 rfl (by decide) (Nat.le_of_ble_eq_true rfl) (fun m H0 w G => ?_)
  unfold w_X10_rounds at h
  show Jg K m 6 H0 w 0 [(0, .ref a0), (1, .int x1)] [] (I, J, B)
  refine j_iload_n G 1 1 dX10_rounds_0 rfl rfl ?_
  refine j_iconst G (0 : Int32) dX10_rounds_1 (by decide) ?_
  refine j_iconst G (2 : Int32) dX10_rounds_2 (by decide) ?_
  refine j_ci (rn_S G (n := 3) (As := [.int x1, .int (0 : Int32), .int (2 : Int32)]) (rest := []) (c_X10_isIn K hW l x1 (0 : Int32) (2 : Int32) I J B _ h) ml_X10_190 st_X10_isIn in_X10 co_X10_isIn (by decide +kernel) rfl rfl (by decide) (by decide) rfl rfl (Nat.le_of_ble_eq_true rfl) dX10_rounds_3) (fun r1 _ h => ?_)
  refine j_if_ne G 12 dX10_rounds_6 (by decide) (fun c2 => ?_) (fun c2 => ?_)
  · have h := h.1 c2
    refine j_iconst G (0 : Int32) dX10_rounds_12 (by decide) ?_
    refine j_istore_n G 2 [(2, .int (0 : Int32)), (0, .ref a0), (1, .int x1)] dX10_rounds_13 rfl (by decide) rfl ?_
    refine j_iconst G (0 : Int32) dX10_rounds_14 (by decide) ?_
    refine j_istore_n G 3 [(3, .int (0 : Int32)), (2, .int (0 : Int32)), (0, .ref a0), (1, .int x1)] dX10_rounds_15 rfl (by decide) rfl ?_
    refine Jg.sub [2, 3, 1, 0] rfl (m_X10_rounds_l16 G hW a0 x1 (0 : Int32) (0 : Int32) k0 h)
  · have h := h.2 c2
    refine j_bipush G (-2 : Int32) dX10_rounds_9 (by decide) ?_
    exact j_reti G () rfl dX10_rounds_11 h rfl
abbrev rm_X10_feed : Room := { frames := 0, cells := 0, slots := 0, locals := 0 }
def w_X10_feed_p71 (a0 : Nat) (x1 : Int32) (x2 : Int32) (x3 : Int32) (x4 : Int32) (x5 : Int32) (x6 : Int32) (s0 : Int32) (I : MI) (rec : Int32 → MI → Prop) (Q : Int32 → MI → Prop) : Prop :=
(vp_in ((I a0 3) + x6) 600 ∧
(∀ I10, I10 = ui I (a0 + 2) (ix ((I a0 3) + x6)) ((s0 >>> (((24 : Int32) - ((8 : Int32) * (x6 &&& (3 : Int32)))) &&& 31)) &&& (255 : Int32)) →
rec (x6 + 1) I10))
set_option maxHeartbeats 4000000 in
set_option maxRecDepth 100000 in
theorem m_X10_feed_p71 {K : Kx} {l : Launch} {m : MethodId} {H0 : Heap} {Q : Int32 → MI → Prop} {w : HW} {J : MJ} {B : MR} (G : Gd l rm_X10_feed K m RX10 cX10_feed 8 H0 (some .int) (va_Qi (S := MI) Q (fun u t => HP K (u, J, B) t.heap) (AA K)) w) (hW : WFK K) (a0 : Nat) (x1 : Int32) (x2 : Int32) (x3 : Int32) (x4 : Int32) (x5 : Int32) (x6 : Int32) (s0 : Int32) (ka0 : (kG K a0).1 = 12)  (I : MI) (rec : Int32 → MI → Prop) (hrec : ∀ (x6 : Int32) (I : MI), rec x6 I → Jg K m 8 H0 w 18 [(0, .ref a0), (1, .int x1), (2, .int x2), (3, .int x3), (4, .int x4), (5, .int x5), (6, .int x6)] [] (I, J, B)) (h : w_X10_feed_p71 a0 x1 x2 x3 x4 x5 x6 s0 I rec Q) : Jg K m 8 H0 w 71 [(0, .ref a0), (1, .int x1), (2, .int x2), (3, .int x3), (4, .int x4), (5, .int x5), (6, .int x6)] [.int s0] (I, J, B) := by
  unfold w_X10_feed_p71 at h
  refine j_istore G [(7, .int s0), (0, .ref a0), (1, .int x1), (2, .int x2), (3, .int x3), (4, .int x4), (5, .int x5), (6, .int x6)] dX10_feed_71 (by decide) rfl ?_
  refine j_aload_n G 1 0 dX10_feed_73 rfl rfl ?_
  have kk8 : kG K (a0 + 2) = (20, 600) := wk_12_2 hW ka0
  refine j_get G hW 11 1 5 (.ref (a0 + 2)) ka0 (by decide) rfl (by decide) rfl lay_X10 fl_X10_13 rfl rfl dX10_feed_74 ?_
  refine j_aload_n G 1 0 dX10_feed_77 rfl rfl ?_
  refine j_get G hW 11 3 0 (.int (I a0 3)) ka0 (by decide) rfl (by decide) rfl lay_X10 fl_X10_174 rfl rfl dX10_feed_78 ?_
  refine j_iload G 7 dX10_feed_81 rfl ?_
  refine j_iadd G dX10_feed_83 ?_
  refine j_iload G 0 dX10_feed_84 rfl ?_
  refine j_bipush G (24 : Int32) dX10_feed_86 (by decide) ?_
  refine j_bipush G (8 : Int32) dX10_feed_88 (by decide) ?_
  refine j_iload G 7 dX10_feed_90 rfl ?_
  refine j_iconst G (3 : Int32) dX10_feed_92 (by decide) ?_
  refine j_iand G dX10_feed_93 ?_
  refine j_imul G dX10_feed_94 ?_
  refine j_isub G dX10_feed_95 ?_
  refine j_ishr G dX10_feed_96 ?_
  refine j_sipush G (255 : Int32) dX10_feed_97 (by decide) ?_
  refine j_iand G dX10_feed_100 ?_
  obtain ⟨b9, h⟩ := h
  refine j_iast G hW kk8 b9 dX10_feed_101 ?_
  refine j_mI (fun I10 eI10 => ?_)
  have h := h I10 eI10
  refine j_iinc G 7 (x6 + 1) [(6, .int (x6 + 1)), (7, .int s0), (0, .ref a0), (1, .int x1), (2, .int x2), (3, .int x3), (4, .int x4), (5, .int x5)] dX10_feed_102 rfl rfl (by decide) rfl ?_
  refine j_goto G 18 dX10_feed_105 (by decide) ?_
  exact Jg.sub [2, 3, 4, 5, 6, 7, 0] rfl (hrec (x6 + 1) I10 h)
def w_X10_feed_l18 (a0 : Nat) (x1 : Int32) (x2 : Int32) (x3 : Int32) (x4 : Int32) (x5 : Int32)   (Q : Int32 → MI → Prop) (rec : Int32 → MI → Prop) (x6 : Int32) (I : MI) : Prop :=
(((20 : Int32) ≤ x6 → (∀ I3, I3 = ui I a0 3 ((I a0 3) + (20 : Int32)) →
Q (I3 a0 3) I3)) ∧
(¬ (20 : Int32) ≤ x6 → (((4 : Int32) ≤ x6 → (((8 : Int32) ≤ x6 → (((12 : Int32) ≤ x6 → (((16 : Int32) ≤ x6 → w_X10_feed_p71 a0 x1 x2 x3 x4 x5 x6 x5 I rec Q) ∧
(¬ (16 : Int32) ≤ x6 → w_X10_feed_p71 a0 x1 x2 x3 x4 x5 x6 x4 I rec Q))) ∧
(¬ (12 : Int32) ≤ x6 → w_X10_feed_p71 a0 x1 x2 x3 x4 x5 x6 x3 I rec Q))) ∧
(¬ (8 : Int32) ≤ x6 → w_X10_feed_p71 a0 x1 x2 x3 x4 x5 x6 x2 I rec Q))) ∧
(¬ (4 : Int32) ≤ x6 → w_X10_feed_p71 a0 x1 x2 x3 x4 x5 x6 x1 I rec Q))))
set_option maxHeartbeats 4000000 in
set_option maxRecDepth 100000 in
theorem m_X10_feed_l18 {K : Kx} {l : Launch} {m : MethodId} {H0 : Heap} {Q : Int32 → MI → Prop} {w : HW} {J : MJ} {B : MR} (G : Gd l rm_X10_feed K m RX10 cX10_feed 8 H0 (some .int) (va_Qi (S := MI) Q (fun u t => HP K (u, J, B) t.heap) (AA K)) w) (hW : WFK K) (a0 : Nat) (x1 : Int32) (x2 : Int32) (x3 : Int32) (x4 : Int32) (x5 : Int32) (x6 : Int32) (ka0 : (kG K a0).1 = 12) (I : MI)   (h : Lp2 (w_X10_feed_l18 a0 x1 x2 x3 x4 x5 Q) x6 I) : Jg K m 8 H0 w 18 [(0, .ref a0), (1, .int x1), (2, .int x2), (3, .int x3), (4, .int x4), (5, .int x5), (6, .int x6)] [] (I, J, B) := by
  obtain ⟨n, h⟩ := h
  refine lpN2_ind (P := (fun (x6 : Int32) (I : MI) => Jg K m 8 H0 w 18 [(0, .ref a0), (1, .int x1), (2, .int x2), (3, .int x3), (4, .int x4), (5, .int x5), (6, .int x6)] [] (I, J, B))) (fun rec hrec x6 I h => ?_) n x6 I h
  unfold w_X10_feed_l18 at h
  refine j_iload G 6 dX10_feed_18 rfl ?_
  refine j_bipush G (20 : Int32) dX10_feed_20 (by decide) ?_
  refine j_icmp_ge G 108 dX10_feed_22 (by decide) (fun c2 => ?_) (fun c2 => ?_)
  · have h := h.1 c2
    refine j_aload_n G 0 0 dX10_feed_108 rfl rfl ?_
    refine j_dup G rfl dX10_feed_109 ?_
    refine j_get G hW 11 3 0 (.int (I a0 3)) ka0 (by decide) rfl (by decide) rfl lay_X10 fl_X10_174 rfl rfl dX10_feed_110 ?_
    refine j_bipush G (20 : Int32) dX10_feed_113 (by decide) ?_
    refine j_iadd G dX10_feed_115 ?_
    refine j_put G hW 11 3 tyX10 (tyX10 3) tyX10_ok nmX10 ka0 (by decide) rfl (by decide) rfl lay_X10 fl_X10_174 rfl rfl (tyX10_ok 3 (by decide)) rfl rfl dX10_feed_116 ?_
    refine j_mI (fun I3 eI3 => ?_)
    have h := h I3 eI3
    refine j_aload_n G 0 0 dX10_feed_119 rfl rfl ?_
    refine j_get G hW 11 3 0 (.int (I3 a0 3)) ka0 (by decide) rfl (by decide) rfl lay_X10 fl_X10_174 rfl rfl dX10_feed_120 ?_
    exact j_reti G I3 rfl dX10_feed_123 h rfl
  · have h := h.2 c2
    refine j_iload G 6 dX10_feed_25 rfl ?_
    refine j_iconst G (4 : Int32) dX10_feed_27 (by decide) ?_
    refine j_icmp_ge G 35 dX10_feed_28 (by decide) (fun c4 => ?_) (fun c4 => ?_)
    · have h := h.1 c4
      refine j_iload G 6 dX10_feed_35 rfl ?_
      refine j_bipush G (8 : Int32) dX10_feed_37 (by decide) ?_
      refine j_icmp_ge G 46 dX10_feed_39 (by decide) (fun c5 => ?_) (fun c5 => ?_)
      · have h := h.1 c5
        refine j_iload G 6 dX10_feed_46 rfl ?_
        refine j_bipush G (12 : Int32) dX10_feed_48 (by decide) ?_
        refine j_icmp_ge G 57 dX10_feed_50 (by decide) (fun c6 => ?_) (fun c6 => ?_)
        · have h := h.1 c6
          refine j_iload G 6 dX10_feed_57 rfl ?_
          refine j_bipush G (16 : Int32) dX10_feed_59 (by decide) ?_
          refine j_icmp_ge G 69 dX10_feed_61 (by decide) (fun c7 => ?_) (fun c7 => ?_)
          · have h := h.1 c7
            refine j_iload G 5 dX10_feed_69 rfl ?_
            exact m_X10_feed_p71 G hW a0 x1 x2 x3 x4 x5 x6 x5 ka0 I rec hrec h
          · have h := h.2 c7
            refine j_iload G 4 dX10_feed_64 rfl ?_
            refine j_goto G 71 dX10_feed_66 (by decide) ?_
            exact m_X10_feed_p71 G hW a0 x1 x2 x3 x4 x5 x6 x4 ka0 I rec hrec h
        · have h := h.2 c6
          refine j_iload_n G 3 3 dX10_feed_53 rfl rfl ?_
          refine j_goto G 71 dX10_feed_54 (by decide) ?_
          exact m_X10_feed_p71 G hW a0 x1 x2 x3 x4 x5 x6 x3 ka0 I rec hrec h
      · have h := h.2 c5
        refine j_iload_n G 2 2 dX10_feed_42 rfl rfl ?_
        refine j_goto G 71 dX10_feed_43 (by decide) ?_
        exact m_X10_feed_p71 G hW a0 x1 x2 x3 x4 x5 x6 x2 ka0 I rec hrec h
    · have h := h.2 c4
      refine j_iload_n G 1 1 dX10_feed_31 rfl rfl ?_
      refine j_goto G 71 dX10_feed_32 (by decide) ?_
      exact m_X10_feed_p71 G hW a0 x1 x2 x3 x4 x5 x6 x1 ka0 I rec hrec h
def w_X10_feed (a0 : Nat) (x1 : Int32) (x2 : Int32) (x3 : Int32) (x4 : Int32) (x5 : Int32) (I : MI) (Q : Int32 → MI → Prop) : Prop :=
((((I a0 3) + (20 : Int32)) ≤ (600 : Int32) → Lp2 (w_X10_feed_l18 a0 x1 x2 x3 x4 x5 Q) (0 : Int32) I) ∧
(¬ ((I a0 3) + (20 : Int32)) ≤ (600 : Int32) → Q (-1 : Int32) I))
set_option maxHeartbeats 4000000 in
set_option maxRecDepth 100000 in
theorem c_X10_feed (K : Kx) (hW : WFK K) (l : Launch) (a0 : Nat) (x1 : Int32) (x2 : Int32) (x3 : Int32) (x4 : Int32) (x5 : Int32) (k0 : (kG K a0).1 = 12) (I : MI) (J : MJ) (B : MR) (Q : Int32 → MI → Prop) (h : w_X10_feed a0 x1 x2 x3 x4 x5 I Q) : Con K l yX10_feed (wsT yX10_feed cX10_feed 8 (some .int)) rm_X10_feed [.ref a0, .int x1, .int x2, .int x3, .int x4, .int x5] (I, J, B) (va_Qi (S := MI) Q (fun u t => HP K (u, J, B) t.heap) (AA K)) := by
  refine Con.ofJ RX10 rfl (by decide) (Nat.le_of_ble_eq_true rfl) (fun m H0 w G => ?_)
  unfold w_X10_feed at h
  show Jg K m 8 H0 w 0 [(0, .ref a0), (1, .int x1), (2, .int x2), (3, .int x3), (4, .int x4), (5, .int x5)] [] (I, J, B)
  refine j_aload_n G 0 0 dX10_feed_0 rfl rfl ?_
  refine j_get G hW 11 3 0 (.int (I a0 3)) k0 (by decide) rfl (by decide) rfl lay_X10 fl_X10_174 rfl rfl dX10_feed_1 ?_
  refine j_bipush G (20 : Int32) dX10_feed_4 (by decide) ?_
  refine j_iadd G dX10_feed_6 ?_
  refine j_sipush G (600 : Int32) dX10_feed_7 (by decide) ?_
  refine j_icmp_le G 15 dX10_feed_10 (by decide) (fun c1 => ?_) (fun c1 => ?_)
  · have h := h.1 c1
    refine j_iconst G (0 : Int32) dX10_feed_15 (by decide) ?_
    refine j_istore G [(6, .int (0 : Int32)), (0, .ref a0), (1, .int x1), (2, .int x2), (3, .int x3), (4, .int x4), (5, .int x5)] dX10_feed_16 (by decide) rfl ?_
    refine Jg.sub [1, 2, 3, 4, 5, 6, 0] rfl (m_X10_feed_l18 G hW a0 x1 x2 x3 x4 x5 (0 : Int32) k0 I h)
  · have h := h.2 c1
    refine j_iconst G (-1 : Int32) dX10_feed_13 (by decide) ?_
    exact j_reti G I rfl dX10_feed_14 h rfl
abbrev rm_X10_end : Room := { frames := 1, cells := 0, slots := 0, locals := 22 }
def w_X10_end (a0 : Nat) (x1 : Int32) (I : MI) (Q : Int32 → MI → Prop) : Prop :=
(w_X10_isIn x1 (0 : Int32) (I a0 3) (fun r1 =>
((¬ r1 = 0 → (∀ I3, I3 = ui I a0 3 x1 →
Q x1 I3)) ∧
(r1 = 0 → Q (-1 : Int32) I))))
set_option maxHeartbeats 4000000 in
set_option maxRecDepth 100000 in
theorem c_X10_end (K : Kx) (hW : WFK K) (l : Launch) (a0 : Nat) (x1 : Int32) (k0 : (kG K a0).1 = 12) (I : MI) (J : MJ) (B : MR) (Q : Int32 → MI → Prop) (h : w_X10_end a0 x1 I Q) : Con K l yX10_end (wsT yX10_end cX10_end 2 (some .int)) rm_X10_end [.ref a0, .int x1] (I, J, B) (va_Qi (S := MI) Q (fun u t => HP K (u, J, B) t.heap) (AA K)) := by
  refine Con.ofJ RX10 rfl (by decide) (Nat.le_of_ble_eq_true rfl) (fun m H0 w G => ?_)
  unfold w_X10_end at h
  show Jg K m 2 H0 w 0 [(0, .ref a0), (1, .int x1)] [] (I, J, B)
  refine j_iload_n G 1 1 dX10_end_0 rfl rfl ?_
  refine j_iconst G (0 : Int32) dX10_end_1 (by decide) ?_
  refine j_aload_n G 0 0 dX10_end_2 rfl rfl ?_
  refine j_get G hW 11 3 0 (.int (I a0 3)) k0 (by decide) rfl (by decide) rfl lay_X10 fl_X10_174 rfl rfl dX10_end_3 ?_
  refine j_ci (rn_S G (n := 3) (As := [.int x1, .int (0 : Int32), .int (I a0 3)]) (rest := []) (c_X10_isIn K hW l x1 (0 : Int32) (I a0 3) I J B _ h) ml_X10_190 st_X10_isIn in_X10 co_X10_isIn (by decide +kernel) rfl rfl (by decide) (by decide) rfl rfl (Nat.le_of_ble_eq_true rfl) dX10_end_6) (fun r1 _ h => ?_)
  refine j_if_ne G 14 dX10_end_9 (by decide) (fun c2 => ?_) (fun c2 => ?_)
  · have h := h.1 c2
    refine j_aload_n G 0 0 dX10_end_14 rfl rfl ?_
    refine j_iload_n G 1 1 dX10_end_15 rfl rfl ?_
    refine j_put G hW 11 3 tyX10 (tyX10 3) tyX10_ok nmX10 k0 (by decide) rfl (by decide) rfl lay_X10 fl_X10_174 rfl rfl (tyX10_ok 3 (by decide)) rfl rfl dX10_end_16 ?_
    refine j_mI (fun I3 eI3 => ?_)
    have h := h I3 eI3
    refine j_iload_n G 1 1 dX10_end_19 rfl rfl ?_
    exact j_reti G I3 rfl dX10_end_20 h rfl
  · have h := h.2 c2
    refine j_iconst G (-1 : Int32) dX10_end_12 (by decide) ?_
    exact j_reti G I rfl dX10_end_13 h rfl
abbrev rm_X10_fault : Room := { frames := 0, cells := 0, slots := 0, locals := 0 }
def w_X10_fault (a0 : Nat) (x1 : Int32) (I : MI) (Q : Int32 →  Prop) : Prop :=
((¬ x1 = 0 → ((¬ x1 = (1 : Int32) → Q (-1 : Int32)) ∧
(x1 = (1 : Int32) → Q (I a0 5)))) ∧
(x1 = 0 → Q (I a0 4)))
set_option maxHeartbeats 4000000 in
set_option maxRecDepth 100000 in
theorem c_X10_fault (K : Kx) (hW : WFK K) (l : Launch) (a0 : Nat) (x1 : Int32) (k0 : (kG K a0).1 = 12) (I : MI) (J : MJ) (B : MR) (Q : Int32 →  Prop) (h : w_X10_fault a0 x1 I Q) : Con K l yX10_fault (wsT yX10_fault cX10_fault 2 (some .int)) rm_X10_fault [.ref a0, .int x1] (I, J, B) (va_Qi (S := Unit) (fun r _ => Q r) (fun u t => HP K (I, J, B) t.heap) (AA K)) := by
  refine Con.ofJ RX10 rfl (by decide) (Nat.le_of_ble_eq_true rfl) (fun m H0 w G => ?_)
  unfold w_X10_fault at h
  show Jg K m 2 H0 w 0 [(0, .ref a0), (1, .int x1)] [] (I, J, B)
  refine j_iload_n G 1 1 dX10_fault_0 rfl rfl ?_
  refine j_if_ne G 11 dX10_fault_1 (by decide) (fun c1 => ?_) (fun c1 => ?_)
  · have h := h.1 c1
    refine j_iload_n G 1 1 dX10_fault_11 rfl rfl ?_
    refine j_iconst G (1 : Int32) dX10_fault_12 (by decide) ?_
    refine j_icmp_ne G 23 dX10_fault_13 (by decide) (fun c2 => ?_) (fun c2 => ?_)
    · have h := h.1 c2
      refine j_iconst G (-1 : Int32) dX10_fault_23 (by decide) ?_
      exact j_reti G () rfl dX10_fault_24 h rfl
    · have h := h.2 c2
      refine j_aload_n G 0 0 dX10_fault_16 rfl rfl ?_
      refine j_get G hW 11 5 0 (.int (I a0 5)) k0 (by decide) rfl (by decide) rfl lay_X10 fl_X10_20 rfl rfl dX10_fault_17 ?_
      refine j_goto G 24 dX10_fault_20 (by decide) ?_
      exact j_reti G () rfl dX10_fault_24 h rfl
  · have h := h.2 c1
    refine j_aload_n G 0 0 dX10_fault_4 rfl rfl ?_
    refine j_get G hW 11 4 0 (.int (I a0 4)) k0 (by decide) rfl (by decide) rfl lay_X10 fl_X10_227 rfl rfl dX10_fault_5 ?_
    refine j_goto G 24 dX10_fault_8 (by decide) ?_
    exact j_reti G () rfl dX10_fault_24 h rfl
abbrev rm_X10_cycles : Room := { frames := 9, cells := 0, slots := 0, locals := 224 }
def w_X10_cycles (a0 : Nat) (x1 : Int32) (I : MI) (Q : Int32 → MI → Prop) : Prop :=
(w_X10_isIn x1 (1 : Int32) (50 : Int32) (fun r1 =>
((r1 = 0 → Q (-1 : Int32) I) ∧
(¬ r1 = 0 → (w_X10_goes a0 (0 : Int32) x1 I (fun r3 I4 =>
Q r3 I4))))))
set_option maxHeartbeats 4000000 in
set_option maxRecDepth 100000 in
theorem c_X10_cycles (K : Kx) (hW : WFK K) (l : Launch) (a0 : Nat) (x1 : Int32) (k0 : (kG K a0).1 = 12) (I : MI) (J : MJ) (B : MR) (Q : Int32 → MI → Prop) (h : w_X10_cycles a0 x1 I Q) : Con K l yX10_cycles (wsT yX10_cycles cX10_cycles 2 (some .int)) rm_X10_cycles [.ref a0, .int x1] (I, J, B) (va_Qi (S := MI) Q (fun u t => HP K (u, J, B) t.heap) (AA K)) := by
  refine Con.ofJ RX10 rfl (by decide) (Nat.le_of_ble_eq_true rfl) (fun m H0 w G => ?_)
  unfold w_X10_cycles at h
  show Jg K m 2 H0 w 0 [(0, .ref a0), (1, .int x1)] [] (I, J, B)
  refine j_iload_n G 1 1 dX10_cycles_0 rfl rfl ?_
  refine j_iconst G (1 : Int32) dX10_cycles_1 (by decide) ?_
  refine j_bipush G (50 : Int32) dX10_cycles_2 (by decide) ?_
  refine j_ci (rn_S G (n := 3) (As := [.int x1, .int (1 : Int32), .int (50 : Int32)]) (rest := []) (c_X10_isIn K hW l x1 (1 : Int32) (50 : Int32) I J B _ h) ml_X10_190 st_X10_isIn in_X10 co_X10_isIn (by decide +kernel) rfl rfl (by decide) (by decide) rfl rfl (Nat.le_of_ble_eq_true rfl) dX10_cycles_4) (fun r1 _ h => ?_)
  refine j_if_eq G 19 dX10_cycles_7 (by decide) (fun c2 => ?_) (fun c2 => ?_)
  · have h := h.1 c2
    refine j_iconst G (-1 : Int32) dX10_cycles_19 (by decide) ?_
    exact j_reti G I rfl dX10_cycles_20 h rfl
  · have h := h.2 c2
    refine j_aload_n G 0 0 dX10_cycles_10 rfl rfl ?_
    refine j_iconst G (0 : Int32) dX10_cycles_11 (by decide) ?_
    refine j_iload_n G 1 1 dX10_cycles_12 rfl rfl ?_
    refine j_ci (rn_V G hW (ci := 11) (n := 2) (As := [.int (0 : Int32), .int x1]) (rest := []) (c_X10_goes K hW l a0 (0 : Int32) x1 k0 I J B _ h) k0 (by decide) rfl ml_X10_180 im_X10_goes se_X10_goes in_X10 co_X10_goes rfl (by decide +kernel) rfl rfl (by decide) (by decide) rfl rfl (Nat.le_of_ble_eq_true rfl) dX10_cycles_13) (fun r3 I4 h => ?_)
    refine j_goto G 20 dX10_cycles_16 (by decide) ?_
    exact j_reti G I4 rfl dX10_cycles_20 h rfl
abbrev rm_X10_begin : Room := { frames := 4, cells := 0, slots := 0, locals := 92 }
def w_X10_begin (a0 : Nat) (I : MI) (Q : MI → Prop) : Prop :=
(w_X10_starts a0 (0 : Int32) I (fun I1 =>
Q I1))
set_option maxHeartbeats 4000000 in
set_option maxRecDepth 100000 in
theorem c_X10_begin (K : Kx) (hW : WFK K) (l : Launch) (a0 : Nat) (k0 : (kG K a0).1 = 12) (I : MI) (J : MJ) (B : MR) (Q : MI → Prop) (h : w_X10_begin a0 I Q) : Con K l yX10_begin (wsT yX10_begin cX10_begin 1 none) rm_X10_begin [.ref a0] (I, J, B) (va_Qv (S := MI) Q (fun u t => HP K (u, J, B) t.heap) (AA K)) := by
  refine Con.ofJ RX10 rfl (by decide) (Nat.le_of_ble_eq_true rfl) (fun m H0 w G => ?_)
  unfold w_X10_begin at h
  show Jg K m 1 H0 w 0 [(0, .ref a0)] [] (I, J, B)
  refine j_aload_n G 0 0 dX10_begin_0 rfl rfl ?_
  refine j_iconst G (0 : Int32) dX10_begin_1 (by decide) ?_
  refine j_cv (rn_V G hW (ci := 11) (n := 1) (As := [.int (0 : Int32)]) (rest := []) (c_X10_starts K hW l a0 (0 : Int32) k0 I J B _ h) k0 (by decide) rfl ml_X10_47 im_X10_starts se_X10_starts in_X10 co_X10_starts rfl (by decide +kernel) rfl rfl (by decide) (by decide) rfl rfl (Nat.le_of_ble_eq_true rfl) dX10_begin_2) (fun I1 h => ?_)
  exact j_retv G I1 dX10_begin_5 h rfl
