abbrev rm_X10_room : Room := { frames := 1, cells := 0, slots := 0, locals := 22 }
def w_X10_room (a0 : Nat) (x1 : Int32) (x2 : Int32) (I : MI) (Q : Int32 → MI → Prop) : Prop :=
(w_X10_isIn x1 (0 : Int32) (5 : Int32) (fun r1 =>
((r1 = 0 → Q (0 : Int32) I) ∧
(¬ r1 = 0 → (w_X10_isIn x2 (1 : Int32) (6 : Int32) (fun r3 =>
((¬ r3 = 0 → (vp_in ((172 : Int32) + x1) 4905 ∧
(∀ I7, I7 = ui I (a0 + 1) (ix ((172 : Int32) + x1)) x2 →
Q (1 : Int32) I7))) ∧
(r3 = 0 → Q (0 : Int32) I))))))))
set_option maxHeartbeats 4000000 in
set_option maxRecDepth 100000 in
theorem c_X10_room (K : Kx) (hW : WFK K) (l : Launch) (a0 : Nat) (x1 : Int32) (x2 : Int32) (k0 : (kG K a0).1 = 12) (I : MI) (J : MJ) (B : MR) (Q : Int32 → MI → Prop) (h : w_X10_room a0 x1 x2 I Q) : Con K l yX10_room (wsT yX10_room cX10_room 3 (some .boolean)) rm_X10_room [.ref a0, .int x1, .int x2] (I, J, B) (va_Qi (S := MI) Q (fun u t => HP K (u, J, B) t.heap) (AA K)) := by
  refine Con.ofJ RX10 rfl (by decide) (Nat.le_of_ble_eq_true rfl) (fun m H0 w G => ?_)
  unfold w_X10_room at h
  show Jg K m 3 H0 w 0 [(0, .ref a0), (1, .int x1), (2, .int x2)] [] (I, J, B)
  refine j_iload_n G 1 1 dX10_room_0 rfl rfl ?_
  refine j_iconst G (0 : Int32) dX10_room_1 (by decide) ?_
  refine j_iconst G (5 : Int32) dX10_room_2 (by decide) ?_
  refine j_ci (rn_S G (n := 3) (As := [.int x1, .int (0 : Int32), .int (5 : Int32)]) (rest := []) (c_X10_isIn K hW l x1 (0 : Int32) (5 : Int32) I J B _ h) ml_X10_190 st_X10_isIn in_X10 co_X10_isIn (by decide +kernel) rfl rfl (by decide) (by decide) rfl rfl (Nat.le_of_ble_eq_true rfl) dX10_room_3) (fun r1 _ h => ?_)
  refine j_if_eq G 19 dX10_room_6 (by decide) (fun c2 => ?_) (fun c2 => ?_)
  · have h := h.1 c2
    refine j_iconst G (0 : Int32) dX10_room_19 (by decide) ?_
    exact j_reti G I (by decide) dX10_room_20 h rfl
  · have h := h.2 c2
    refine j_iload_n G 2 2 dX10_room_9 rfl rfl ?_
    refine j_iconst G (1 : Int32) dX10_room_10 (by decide) ?_
    refine j_bipush G (6 : Int32) dX10_room_11 (by decide) ?_
    refine j_ci (rn_S G (n := 3) (As := [.int x2, .int (1 : Int32), .int (6 : Int32)]) (rest := []) (c_X10_isIn K hW l x2 (1 : Int32) (6 : Int32) I J B _ h) ml_X10_190 st_X10_isIn in_X10 co_X10_isIn (by decide +kernel) rfl rfl (by decide) (by decide) rfl rfl (Nat.le_of_ble_eq_true rfl) dX10_room_13) (fun r3 _ h => ?_)
    refine j_if_ne G 21 dX10_room_16 (by decide) (fun c4 => ?_) (fun c4 => ?_)
    · have h := h.1 c4
      refine j_aload_n G 0 0 dX10_room_21 rfl rfl ?_
      have kk5 : kG K (a0 + 1) = (20, 4905) := wk_12_1 hW k0
      refine j_get G hW 11 0 4 (.ref (a0 + 1)) k0 (by decide) rfl (by decide) rfl lay_X10 fl_X10_7 rfl rfl dX10_room_22 ?_
      refine j_sipush G (172 : Int32) dX10_room_25 (by decide) ?_
      refine j_iload_n G 1 1 dX10_room_28 rfl rfl ?_
      refine j_iadd G dX10_room_29 ?_
      refine j_iload_n G 2 2 dX10_room_30 rfl rfl ?_
      obtain ⟨b6, h⟩ := h
      refine j_iast G hW kk5 b6 dX10_room_31 ?_
      refine j_mI (fun I7 eI7 => ?_)
      have h := h I7 eI7
      refine j_iconst G (1 : Int32) dX10_room_32 (by decide) ?_
      exact j_reti G I7 (by decide) dX10_room_33 h rfl
    · have h := h.2 c4
      refine j_iconst G (0 : Int32) dX10_room_19 (by decide) ?_
      exact j_reti G I (by decide) dX10_room_20 h rfl
abbrev rm_X10_count : Room := { frames := 3, cells := 0, slots := 0, locals := 64 }
def w_X10_count (a0 : Nat) (x1 : Int32) (I : MI) (Q : Int32 →  Prop) : Prop :=
(w_X10_counts a0 (0 : Int32) x1 I (fun r1 =>
Q r1))
set_option maxHeartbeats 4000000 in
set_option maxRecDepth 100000 in
theorem c_X10_count (K : Kx) (hW : WFK K) (l : Launch) (a0 : Nat) (x1 : Int32) (k0 : (kG K a0).1 = 12) (I : MI) (J : MJ) (B : MR) (Q : Int32 →  Prop) (h : w_X10_count a0 x1 I Q) : Con K l yX10_count (wsT yX10_count cX10_count 2 (some .int)) rm_X10_count [.ref a0, .int x1] (I, J, B) (va_Qi (S := Unit) (fun r _ => Q r) (fun u t => HP K (I, J, B) t.heap) (AA K)) := by
  refine Con.ofJ RX10 rfl (by decide) (Nat.le_of_ble_eq_true rfl) (fun m H0 w G => ?_)
  unfold w_X10_count at h
  show Jg K m 2 H0 w 0 [(0, .ref a0), (1, .int x1)] [] (I, J, B)
  refine j_aload_n G 0 0 dX10_count_0 rfl rfl ?_
  refine j_iconst G (0 : Int32) dX10_count_1 (by decide) ?_
  refine j_iload_n G 1 1 dX10_count_2 rfl rfl ?_
  refine j_ci (rn_V G hW (ci := 11) (n := 2) (As := [.int (0 : Int32), .int x1]) (rest := []) (c_X10_counts K hW l a0 (0 : Int32) x1 k0 I J B _ h) k0 (by decide) rfl ml_X10_202 im_X10_counts se_X10_counts in_X10 co_X10_counts rfl (by decide +kernel) rfl rfl (by decide) (by decide) rfl rfl (Nat.le_of_ble_eq_true rfl) dX10_count_3) (fun r1 _ h => ?_)
  exact j_reti G () rfl dX10_count_6 h rfl
abbrev rm_X10_side : Room := { frames := 5, cells := 0, slots := 0, locals := 121 }
def w_X10_side_l76 (a0 : Nat) (x1 : Int32) (I : MI)  (Q : Int32 →  Prop) (rec : Int32 → Int32 → Prop) (x4 : Int32) (x5 : Int32) : Prop :=
(((I (a0 + 1) (ix (48 : Int32))) < x5 → Q x4) ∧
(¬ (I (a0 + 1) (ix (48 : Int32))) < x5 → (w_X10_many a0 (0 : Int32) x1 x5 I (fun r11 =>
(∀ x4_12, x4_12 = x4 + r11 →
rec x4_12 (x5 + 1))))))
set_option maxHeartbeats 4000000 in
set_option maxRecDepth 100000 in
theorem m_X10_side_l76 {K : Kx} {l : Launch} {m : MethodId} {H0 : Heap} {Q : Int32 →  Prop} {w : HW} {I : MI} {J : MJ} {B : MR} (G : Gd l rm_X10_side K m RX10 cX10_side 6 H0 (some .int) (va_Qi (S := Unit) (fun r _ => Q r) (fun u t => HP K (I, J, B) t.heap) (AA K)) w) (hW : WFK K) (a0 : Nat) (x1 : Int32) (x4 : Int32) (x5 : Int32) (ka0 : (kG K a0).1 = 12)    (h : Lp2 (w_X10_side_l76 a0 x1 I Q) x4 x5) : Jg K m 6 H0 w 76 [(0, .ref a0), (1, .int x1), (4, .int x4), (5, .int x5)] [] (I, J, B) := by
  obtain ⟨n, h⟩ := h
  refine lpN2_ind (P := (fun (x4 : Int32) (x5 : Int32) => Jg K m 6 H0 w 76 [(0, .ref a0), (1, .int x1), (4, .int x4), (5, .int x5)] [] (I, J, B))) (fun rec hrec x4 x5 h => ?_) n x4 x5 h
  unfold w_X10_side_l76 at h
  refine j_iload G 3 dX10_side_76 rfl ?_
  refine j_aload_n G 0 0 dX10_side_78 rfl rfl ?_
  have kk9 : kG K (a0 + 1) = (20, 4905) := wk_12_1 hW ka0
  refine j_get G hW 11 0 4 (.ref (a0 + 1)) ka0 (by decide) rfl (by decide) rfl lay_X10 fl_X10_7 rfl rfl dX10_side_79 ?_
  refine j_bipush G (48 : Int32) dX10_side_82 (by decide) ?_
  refine j_iald G hW kk9 (vpc rfl) dX10_side_84 ?_
  refine j_icmp_gt G 107 dX10_side_85 (by decide) (fun c10 => ?_) (fun c10 => ?_)
  · have h := h.1 c10
    refine j_iload G 2 dX10_side_107 rfl ?_
    exact j_reti G () rfl dX10_side_109 h rfl
  · have h := h.2 c10
    refine j_iload G 2 dX10_side_88 rfl ?_
    refine j_aload_n G 0 0 dX10_side_90 rfl rfl ?_
    refine j_iconst G (0 : Int32) dX10_side_91 (by decide) ?_
    refine j_iload_n G 1 1 dX10_side_92 rfl rfl ?_
    refine j_iload G 3 dX10_side_93 rfl ?_
    refine j_ci (rn_V G hW (ci := 11) (n := 3) (As := [.int (0 : Int32), .int x1, .int x5]) (rest := [.int x4]) (c_X10_many K hW l a0 (0 : Int32) x1 x5 ka0 I J B _ h) ka0 (by decide) rfl ml_X10_218 im_X10_many se_X10_many in_X10 co_X10_many rfl (by decide +kernel) rfl rfl (by decide) (by decide) rfl rfl (Nat.le_of_ble_eq_true rfl) dX10_side_95) (fun r11 _ h => ?_)
    refine j_iadd G dX10_side_98 ?_
    refine j_nm (fun x4_12 ex4_12 => ?_)
    have h := h x4_12 ex4_12
    refine j_istore G [(4, .int x4_12), (0, .ref a0), (1, .int x1), (5, .int x5)] dX10_side_99 (by decide) rfl ?_
    refine j_iinc G 3 (x5 + 1) [(5, .int (x5 + 1)), (4, .int x4_12), (0, .ref a0), (1, .int x1)] dX10_side_101 rfl rfl (by decide) rfl ?_
    refine j_goto G 76 dX10_side_104 (by decide) ?_
    exact Jg.sub [2, 3, 1, 0] rfl (hrec x4_12 (x5 + 1) h)
def w_X10_side (a0 : Nat) (x1 : Int32) (x2 : Int32) (I : MI) (Q : Int32 →  Prop) : Prop :=
(w_X10_isIn x1 (0 : Int32) (1 : Int32) (fun r1 =>
((¬ r1 = 0 → (w_X10_sideAt (0 : Int32) x1 (fun r3 =>
(w_X10_isIn x2 (11 : Int32) (17 : Int32) (fun r4 =>
((r4 = 0 → (w_X10_isIn x2 (0 : Int32) (6 : Int32) (fun r6 =>
((¬ r6 = 0 → ((x2 ≤ 0 → Lp2 (w_X10_side_l76 a0 x1 I Q) (0 : Int32) (0 : Int32)) ∧
(¬ x2 ≤ 0 → (vp_in ((r3 + x2) - (1 : Int32)) 4905 ∧
Q (I (a0 + 1) (ix ((r3 + x2) - (1 : Int32)))))))) ∧
(r6 = 0 → Q (-1 : Int32)))))) ∧
(¬ r4 = 0 → (vp_in (((r3 + (6 : Int32)) + x2) - (10 : Int32)) 4905 ∧
Q (I (a0 + 1) (ix (((r3 + (6 : Int32)) + x2) - (10 : Int32)))))))))))) ∧
(r1 = 0 → Q (-1 : Int32)))))
set_option maxHeartbeats 4000000 in
set_option maxRecDepth 100000 in
theorem c_X10_side (K : Kx) (hW : WFK K) (l : Launch) (a0 : Nat) (x1 : Int32) (x2 : Int32) (k0 : (kG K a0).1 = 12) (I : MI) (J : MJ) (B : MR) (Q : Int32 →  Prop) (h : w_X10_side a0 x1 x2 I Q) : Con K l yX10_side (wsT yX10_side cX10_side 6 (some .int)) rm_X10_side [.ref a0, .int x1, .int x2] (I, J, B) (va_Qi (S := Unit) (fun r _ => Q r) (fun u t => HP K (I, J, B) t.heap) (AA K)) := by
  refine Con.ofJ RX10 rfl (by decide) (Nat.le_of_ble_eq_true rfl) (fun m H0 w G => ?_)
  unfold w_X10_side at h
  show Jg K m 6 H0 w 0 [(0, .ref a0), (1, .int x1), (2, .int x2)] [] (I, J, B)
  refine j_iload_n G 1 1 dX10_side_0 rfl rfl ?_
  refine j_iconst G (0 : Int32) dX10_side_1 (by decide) ?_
  refine j_iconst G (1 : Int32) dX10_side_2 (by decide) ?_
  refine j_ci (rn_S G (n := 3) (As := [.int x1, .int (0 : Int32), .int (1 : Int32)]) (rest := []) (c_X10_isIn K hW l x1 (0 : Int32) (1 : Int32) I J B _ h) ml_X10_190 st_X10_isIn in_X10 co_X10_isIn (by decide +kernel) rfl rfl (by decide) (by decide) rfl rfl (Nat.le_of_ble_eq_true rfl) dX10_side_3) (fun r1 _ h => ?_)
  refine j_if_ne G 11 dX10_side_6 (by decide) (fun c2 => ?_) (fun c2 => ?_)
  · have h := h.1 c2
    refine j_iconst G (0 : Int32) dX10_side_11 (by decide) ?_
    refine j_iload_n G 1 1 dX10_side_12 rfl rfl ?_
    refine j_ci (rn_S G (n := 2) (As := [.int (0 : Int32), .int x1]) (rest := []) (c_X10_sideAt K hW l (0 : Int32) x1 I J B _ h) ml_X10_98 st_X10_sideAt in_X10 co_X10_sideAt (by decide +kernel) rfl rfl (by decide) (by decide) rfl rfl (Nat.le_of_ble_eq_true rfl) dX10_side_13) (fun r3 _ h => ?_)
    refine j_istore_n G 3 [(3, .int r3), (0, .ref a0), (1, .int x1), (2, .int x2)] dX10_side_16 rfl (by decide) rfl ?_
    refine j_iload_n G 3 2 dX10_side_17 rfl rfl ?_
    refine j_bipush G (11 : Int32) dX10_side_18 (by decide) ?_
    refine j_bipush G (17 : Int32) dX10_side_20 (by decide) ?_
    refine j_ci (rn_S G (n := 3) (As := [.int x2, .int (11 : Int32), .int (17 : Int32)]) (rest := []) (c_X10_isIn K hW l x2 (11 : Int32) (17 : Int32) I J B _ h) ml_X10_190 st_X10_isIn in_X10 co_X10_isIn (by decide +kernel) rfl rfl (by decide) (by decide) rfl rfl (Nat.le_of_ble_eq_true rfl) dX10_side_22) (fun r4 _ h => ?_)
    refine j_if_eq G 43 dX10_side_25 (by decide) (fun c5 => ?_) (fun c5 => ?_)
    · have h := h.1 c5
      refine j_iload_n G 3 2 dX10_side_43 rfl rfl ?_
      refine j_iconst G (0 : Int32) dX10_side_44 (by decide) ?_
      refine j_bipush G (6 : Int32) dX10_side_45 (by decide) ?_
      refine j_ci (rn_S G (n := 3) (As := [.int x2, .int (0 : Int32), .int (6 : Int32)]) (rest := []) (c_X10_isIn K hW l x2 (0 : Int32) (6 : Int32) I J B _ h) ml_X10_190 st_X10_isIn in_X10 co_X10_isIn (by decide +kernel) rfl rfl (by decide) (by decide) rfl rfl (Nat.le_of_ble_eq_true rfl) dX10_side_47) (fun r6 _ h => ?_)
      refine j_if_ne G 55 dX10_side_50 (by decide) (fun c7 => ?_) (fun c7 => ?_)
      · have h := h.1 c7
        refine j_iload_n G 3 2 dX10_side_55 rfl rfl ?_
        refine j_if_le G 70 dX10_side_56 (by decide) (fun c8 => ?_) (fun c8 => ?_)
        · have h := h.1 c8
          refine j_iconst G (0 : Int32) dX10_side_70 (by decide) ?_
          refine j_istore G [(4, .int (0 : Int32)), (3, .int r3), (0, .ref a0), (1, .int x1), (2, .int x2)] dX10_side_71 (by decide) rfl ?_
          refine j_iconst G (0 : Int32) dX10_side_73 (by decide) ?_
          refine j_istore G [(5, .int (0 : Int32)), (4, .int (0 : Int32)), (3, .int r3), (0, .ref a0), (1, .int x1), (2, .int x2)] dX10_side_74 (by decide) rfl ?_
          refine Jg.sub [3, 4, 1, 0] rfl (m_X10_side_l76 G hW a0 x1 (0 : Int32) (0 : Int32) k0 h)
        · have h := h.2 c8
          refine j_aload_n G 1 0 dX10_side_59 rfl rfl ?_
          have kk13 : kG K (a0 + 1) = (20, 4905) := wk_12_1 hW k0
          refine j_get G hW 11 0 4 (.ref (a0 + 1)) k0 (by decide) rfl (by decide) rfl lay_X10 fl_X10_7 rfl rfl dX10_side_60 ?_
          refine j_iload_n G 0 3 dX10_side_63 rfl rfl ?_
          refine j_iload_n G 3 2 dX10_side_64 rfl rfl ?_
          refine j_iadd G dX10_side_65 ?_
          refine j_iconst G (1 : Int32) dX10_side_66 (by decide) ?_
          refine j_isub G dX10_side_67 ?_
          obtain ⟨b14, h⟩ := h
          refine j_iald G hW kk13 b14 dX10_side_68 ?_
          exact j_reti G () rfl dX10_side_69 h rfl
      · have h := h.2 c7
        refine j_iconst G (-1 : Int32) dX10_side_53 (by decide) ?_
        exact j_reti G () rfl dX10_side_54 h rfl
    · have h := h.2 c5
      refine j_aload_n G 1 0 dX10_side_28 rfl rfl ?_
      have kk15 : kG K (a0 + 1) = (20, 4905) := wk_12_1 hW k0
      refine j_get G hW 11 0 4 (.ref (a0 + 1)) k0 (by decide) rfl (by decide) rfl lay_X10 fl_X10_7 rfl rfl dX10_side_29 ?_
      refine j_iload_n G 0 3 dX10_side_32 rfl rfl ?_
      refine j_bipush G (6 : Int32) dX10_side_33 (by decide) ?_
      refine j_iadd G dX10_side_35 ?_
      refine j_iload_n G 3 2 dX10_side_36 rfl rfl ?_
      refine j_iadd G dX10_side_37 ?_
      refine j_bipush G (10 : Int32) dX10_side_38 (by decide) ?_
      refine j_isub G dX10_side_40 ?_
      obtain ⟨b16, h⟩ := h
      refine j_iald G hW kk15 b16 dX10_side_41 ?_
      exact j_reti G () rfl dX10_side_42 h rfl
  · have h := h.2 c2
    refine j_iconst G (-1 : Int32) dX10_side_9 (by decide) ?_
    exact j_reti G () rfl dX10_side_10 h rfl
abbrev rm_X10_deeds : Room := { frames := 5, cells := 0, slots := 0, locals := 121 }
def w_X10_deeds (a0 : Nat) (x1 : Int32) (x2 : Int32) (I : MI) (Q : Int32 →  Prop) : Prop :=
(w_X10_isIn x1 (0 : Int32) (1 : Int32) (fun r1 =>
((r1 = 0 → Q (-1 : Int32)) ∧
(¬ r1 = 0 → (w_X10_isIn x2 (0 : Int32) (I (a0 + 1) (ix (48 : Int32))) (fun r4 =>
((r4 = 0 → Q (-1 : Int32)) ∧
(¬ r4 = 0 → (w_X10_many a0 (0 : Int32) x1 x2 I (fun r6 =>
Q r6))))))))))
set_option maxHeartbeats 4000000 in
set_option maxRecDepth 100000 in
theorem c_X10_deeds (K : Kx) (hW : WFK K) (l : Launch) (a0 : Nat) (x1 : Int32) (x2 : Int32) (k0 : (kG K a0).1 = 12) (I : MI) (J : MJ) (B : MR) (Q : Int32 →  Prop) (h : w_X10_deeds a0 x1 x2 I Q) : Con K l yX10_deeds (wsT yX10_deeds cX10_deeds 3 (some .int)) rm_X10_deeds [.ref a0, .int x1, .int x2] (I, J, B) (va_Qi (S := Unit) (fun r _ => Q r) (fun u t => HP K (I, J, B) t.heap) (AA K)) := by
  refine Con.ofJ RX10 rfl (by decide) (Nat.le_of_ble_eq_true rfl) (fun m H0 w G => ?_)
  unfold w_X10_deeds at h
  show Jg K m 3 H0 w 0 [(0, .ref a0), (1, .int x1), (2, .int x2)] [] (I, J, B)
  refine j_iload_n G 1 1 dX10_deeds_0 rfl rfl ?_
  refine j_iconst G (0 : Int32) dX10_deeds_1 (by decide) ?_
  refine j_iconst G (1 : Int32) dX10_deeds_2 (by decide) ?_
  refine j_ci (rn_S G (n := 3) (As := [.int x1, .int (0 : Int32), .int (1 : Int32)]) (rest := []) (c_X10_isIn K hW l x1 (0 : Int32) (1 : Int32) I J B _ h) ml_X10_190 st_X10_isIn in_X10 co_X10_isIn (by decide +kernel) rfl rfl (by decide) (by decide) rfl rfl (Nat.le_of_ble_eq_true rfl) dX10_deeds_3) (fun r1 _ h => ?_)
  refine j_if_eq G 34 dX10_deeds_6 (by decide) (fun c2 => ?_) (fun c2 => ?_)
  · have h := h.1 c2
    refine j_iconst G (-1 : Int32) dX10_deeds_34 (by decide) ?_
    exact j_reti G () rfl dX10_deeds_35 h rfl
  · have h := h.2 c2
    refine j_iload_n G 2 2 dX10_deeds_9 rfl rfl ?_
    refine j_iconst G (0 : Int32) dX10_deeds_10 (by decide) ?_
    refine j_aload_n G 0 0 dX10_deeds_11 rfl rfl ?_
    have kk3 : kG K (a0 + 1) = (20, 4905) := wk_12_1 hW k0
    refine j_get G hW 11 0 4 (.ref (a0 + 1)) k0 (by decide) rfl (by decide) rfl lay_X10 fl_X10_7 rfl rfl dX10_deeds_12 ?_
    refine j_bipush G (48 : Int32) dX10_deeds_15 (by decide) ?_
    refine j_iald G hW kk3 (vpc rfl) dX10_deeds_17 ?_
    refine j_ci (rn_S G (n := 3) (As := [.int x2, .int (0 : Int32), .int (I (a0 + 1) (ix (48 : Int32)))]) (rest := []) (c_X10_isIn K hW l x2 (0 : Int32) (I (a0 + 1) (ix (48 : Int32))) I J B _ h) ml_X10_190 st_X10_isIn in_X10 co_X10_isIn (by decide +kernel) rfl rfl (by decide) (by decide) rfl rfl (Nat.le_of_ble_eq_true rfl) dX10_deeds_18) (fun r4 _ h => ?_)
    refine j_if_eq G 34 dX10_deeds_21 (by decide) (fun c5 => ?_) (fun c5 => ?_)
    · have h := h.1 c5
      refine j_iconst G (-1 : Int32) dX10_deeds_34 (by decide) ?_
      exact j_reti G () rfl dX10_deeds_35 h rfl
    · have h := h.2 c5
      refine j_aload_n G 0 0 dX10_deeds_24 rfl rfl ?_
      refine j_iconst G (0 : Int32) dX10_deeds_25 (by decide) ?_
      refine j_iload_n G 1 1 dX10_deeds_26 rfl rfl ?_
      refine j_iload_n G 2 2 dX10_deeds_27 rfl rfl ?_
      refine j_ci (rn_V G hW (ci := 11) (n := 3) (As := [.int (0 : Int32), .int x1, .int x2]) (rest := []) (c_X10_many K hW l a0 (0 : Int32) x1 x2 k0 I J B _ h) k0 (by decide) rfl ml_X10_218 im_X10_many se_X10_many in_X10 co_X10_many rfl (by decide +kernel) rfl rfl (by decide) (by decide) rfl rfl (Nat.le_of_ble_eq_true rfl) dX10_deeds_28) (fun r6 _ h => ?_)
      refine j_goto G 35 dX10_deeds_31 (by decide) ?_
      exact j_reti G () rfl dX10_deeds_35 h rfl
abbrev rm_X10_isDeed : Room := { frames := 6, cells := 0, slots := 0, locals := 143 }
def w_X10_isDeed (a0 : Nat) (x1 : Int32) (x2 : Int32) (x3 : Int32) (I : MI) (Q : Int32 →  Prop) : Prop :=
(w_X10_deeds a0 x1 x2 I (fun r1 =>
((r1 ≤ 0 → Q (0 : Int32)) ∧
(¬ r1 ≤ 0 → (w_X10_deeds a0 x1 x2 I (fun r3 =>
(w_X10_isIn x3 (0 : Int32) (r3 - (1 : Int32)) (fun r4 =>
((r4 = 0 → Q (0 : Int32)) ∧
(¬ r4 = 0 → Q (1 : Int32)))))))))))
set_option maxHeartbeats 4000000 in
set_option maxRecDepth 100000 in
theorem c_X10_isDeed (K : Kx) (hW : WFK K) (l : Launch) (a0 : Nat) (x1 : Int32) (x2 : Int32) (x3 : Int32) (k0 : (kG K a0).1 = 12) (I : MI) (J : MJ) (B : MR) (Q : Int32 →  Prop) (h : w_X10_isDeed a0 x1 x2 x3 I Q) : Con K l yX10_isDeed (wsT yX10_isDeed cX10_isDeed 4 (some .boolean)) rm_X10_isDeed [.ref a0, .int x1, .int x2, .int x3] (I, J, B) (va_Qi (S := Unit) (fun r _ => Q r) (fun u t => HP K (I, J, B) t.heap) (AA K)) := by
  refine Con.ofJ RX10 rfl (by decide) (Nat.le_of_ble_eq_true rfl) (fun m H0 w G => ?_)
  unfold w_X10_isDeed at h
  show Jg K m 4 H0 w 0 [(0, .ref a0), (1, .int x1), (2, .int x2), (3, .int x3)] [] (I, J, B)
  refine j_aload_n G 0 0 dX10_isDeed_0 rfl rfl ?_
  refine j_iload_n G 1 1 dX10_isDeed_1 rfl rfl ?_
  refine j_iload_n G 2 2 dX10_isDeed_2 rfl rfl ?_
  refine j_ci (rn_V G hW (ci := 11) (n := 2) (As := [.int x1, .int x2]) (rest := []) (c_X10_deeds K hW l a0 x1 x2 k0 I J B _ h) k0 (by decide) rfl ml_X10_230 im_X10_deeds se_X10_deeds in_X10 co_X10_deeds rfl (by decide +kernel) rfl rfl (by decide) (by decide) rfl rfl (Nat.le_of_ble_eq_true rfl) dX10_isDeed_3) (fun r1 _ h => ?_)
  refine j_if_le G 29 dX10_isDeed_6 (by decide) (fun c2 => ?_) (fun c2 => ?_)
  · have h := h.1 c2
    refine j_iconst G (0 : Int32) dX10_isDeed_29 (by decide) ?_
    exact j_reti G () (by decide) dX10_isDeed_30 h rfl
  · have h := h.2 c2
    refine j_iload_n G 3 3 dX10_isDeed_9 rfl rfl ?_
    refine j_iconst G (0 : Int32) dX10_isDeed_10 (by decide) ?_
    refine j_aload_n G 0 0 dX10_isDeed_11 rfl rfl ?_
    refine j_iload_n G 1 1 dX10_isDeed_12 rfl rfl ?_
    refine j_iload_n G 2 2 dX10_isDeed_13 rfl rfl ?_
    refine j_ci (rn_V G hW (ci := 11) (n := 2) (As := [.int x1, .int x2]) (rest := [.int (0 : Int32), .int x3]) (c_X10_deeds K hW l a0 x1 x2 k0 I J B _ h) k0 (by decide) rfl ml_X10_230 im_X10_deeds se_X10_deeds in_X10 co_X10_deeds rfl (by decide +kernel) rfl rfl (by decide) (by decide) rfl rfl (Nat.le_of_ble_eq_true rfl) dX10_isDeed_14) (fun r3 _ h => ?_)
    refine j_iconst G (1 : Int32) dX10_isDeed_17 (by decide) ?_
    refine j_isub G dX10_isDeed_18 ?_
    refine j_ci (rn_S G (n := 3) (As := [.int x3, .int (0 : Int32), .int (r3 - (1 : Int32))]) (rest := []) (c_X10_isIn K hW l x3 (0 : Int32) (r3 - (1 : Int32)) I J B _ h) ml_X10_190 st_X10_isIn in_X10 co_X10_isIn (by decide +kernel) rfl rfl (by decide) (by decide) rfl rfl (Nat.le_of_ble_eq_true rfl) dX10_isDeed_19) (fun r4 _ h => ?_)
    refine j_if_eq G 29 dX10_isDeed_22 (by decide) (fun c5 => ?_) (fun c5 => ?_)
    · have h := h.1 c5
      refine j_iconst G (0 : Int32) dX10_isDeed_29 (by decide) ?_
      exact j_reti G () (by decide) dX10_isDeed_30 h rfl
    · have h := h.2 c5
      refine j_iconst G (1 : Int32) dX10_isDeed_25 (by decide) ?_
      refine j_goto G 30 dX10_isDeed_26 (by decide) ?_
      exact j_reti G () (by decide) dX10_isDeed_30 h rfl
abbrev rm_X10_did : Room := { frames := 7, cells := 0, slots := 0, locals := 166 }
def w_X10_did (a0 : Nat) (x1 : Int32) (x2 : Int32) (x3 : Int32) (I : MI) (Q : Int32 →  Prop) : Prop :=
(w_X10_isDeed a0 x1 x2 x3 I (fun r1 =>
((r1 = 0 → Q (-1 : Int32)) ∧
(¬ r1 = 0 → (vp_in ((((366 : Int32) + ((75 : Int32) * x1)) + ((3 : Int32) * x2)) + x3) 4905 ∧
Q (I (a0 + 1) (ix ((((366 : Int32) + ((75 : Int32) * x1)) + ((3 : Int32) * x2)) + x3))))))))
set_option maxHeartbeats 4000000 in
set_option maxRecDepth 100000 in
theorem c_X10_did (K : Kx) (hW : WFK K) (l : Launch) (a0 : Nat) (x1 : Int32) (x2 : Int32) (x3 : Int32) (k0 : (kG K a0).1 = 12) (I : MI) (J : MJ) (B : MR) (Q : Int32 →  Prop) (h : w_X10_did a0 x1 x2 x3 I Q) : Con K l yX10_did (wsT yX10_did cX10_did 4 (some .int)) rm_X10_did [.ref a0, .int x1, .int x2, .int x3] (I, J, B) (va_Qi (S := Unit) (fun r _ => Q r) (fun u t => HP K (I, J, B) t.heap) (AA K)) := by
  refine Con.ofJ RX10 rfl (by decide) (Nat.le_of_ble_eq_true rfl) (fun m H0 w G => ?_)
  unfold w_X10_did at h
  show Jg K m 4 H0 w 0 [(0, .ref a0), (1, .int x1), (2, .int x2), (3, .int x3)] [] (I, J, B)
  refine j_aload_n G 0 0 dX10_did_0 rfl rfl ?_
  refine j_iload_n G 1 1 dX10_did_1 rfl rfl ?_
  refine j_iload_n G 2 2 dX10_did_2 rfl rfl ?_
  refine j_iload_n G 3 3 dX10_did_3 rfl rfl ?_
  refine j_ci (rn_V G hW (ci := 11) (n := 3) (As := [.int x1, .int x2, .int x3]) (rest := []) (c_X10_isDeed K hW l a0 x1 x2 x3 k0 I J B _ h) k0 (by decide) rfl ml_X10_233 im_X10_isDeed se_X10_isDeed in_X10 co_X10_isDeed rfl (by decide +kernel) rfl rfl (by decide) (by decide) rfl rfl (Nat.le_of_ble_eq_true rfl) dX10_did_4) (fun r1 _ h => ?_)
  refine j_if_eq G 32 dX10_did_7 (by decide) (fun c2 => ?_) (fun c2 => ?_)
  · have h := h.1 c2
    refine j_iconst G (-1 : Int32) dX10_did_32 (by decide) ?_
    exact j_reti G () rfl dX10_did_33 h rfl
  · have h := h.2 c2
    refine j_aload_n G 0 0 dX10_did_10 rfl rfl ?_
    have kk3 : kG K (a0 + 1) = (20, 4905) := wk_12_1 hW k0
    refine j_get G hW 11 0 4 (.ref (a0 + 1)) k0 (by decide) rfl (by decide) rfl lay_X10 fl_X10_7 rfl rfl dX10_did_11 ?_
    refine j_sipush G (366 : Int32) dX10_did_14 (by decide) ?_
    refine j_bipush G (75 : Int32) dX10_did_17 (by decide) ?_
    refine j_iload_n G 1 1 dX10_did_19 rfl rfl ?_
    refine j_imul G dX10_did_20 ?_
    refine j_iadd G dX10_did_21 ?_
    refine j_iconst G (3 : Int32) dX10_did_22 (by decide) ?_
    refine j_iload_n G 2 2 dX10_did_23 rfl rfl ?_
    refine j_imul G dX10_did_24 ?_
    refine j_iadd G dX10_did_25 ?_
    refine j_iload_n G 3 3 dX10_did_26 rfl rfl ?_
    refine j_iadd G dX10_did_27 ?_
    obtain ⟨b4, h⟩ := h
    refine j_iald G hW kk3 b4 dX10_did_28 ?_
    refine j_goto G 33 dX10_did_29 (by decide) ?_
    exact j_reti G () rfl dX10_did_33 h rfl
abbrev rm_X10_queue : Room := { frames := 2, cells := 0, slots := 0, locals := 43 }
def w_X10_queue (a0 : Nat) (x1 : Int32) (x2 : Int32) (I : MI) (Q : Int32 →  Prop) : Prop :=
(w_X10_isIn x1 (0 : Int32) (5 : Int32) (fun r1 =>
((¬ r1 = 0 → (w_X10_inQueue a0 (0 : Int32) x1 I (fun r3 =>
((¬ x2 = (-1 : Int32) → (w_X10_isIn x2 (0 : Int32) (r3 - (1 : Int32)) (fun r5 =>
((r5 = 0 → Q (-2 : Int32)) ∧
(¬ r5 = 0 → (w_X10_queueAt (0 : Int32) x1 (fun r8 =>
(vp_in ((r8 + (1 : Int32)) + ((3 : Int32) * x2)) 4905 ∧
Q (I (a0 + 1) (ix ((r8 + (1 : Int32)) + ((3 : Int32) * x2)))))))))))) ∧
(x2 = (-1 : Int32) → Q r3))))) ∧
(r1 = 0 → Q (-2 : Int32)))))
set_option maxHeartbeats 4000000 in
set_option maxRecDepth 100000 in
theorem c_X10_queue (K : Kx) (hW : WFK K) (l : Launch) (a0 : Nat) (x1 : Int32) (x2 : Int32) (k0 : (kG K a0).1 = 12) (I : MI) (J : MJ) (B : MR) (Q : Int32 →  Prop) (h : w_X10_queue a0 x1 x2 I Q) : Con K l yX10_queue (wsT yX10_queue cX10_queue 4 (some .int)) rm_X10_queue [.ref a0, .int x1, .int x2] (I, J, B) (va_Qi (S := Unit) (fun r _ => Q r) (fun u t => HP K (I, J, B) t.heap) (AA K)) := by
  refine Con.ofJ RX10 rfl (by decide) (Nat.le_of_ble_eq_true rfl) (fun m H0 w G => ?_)
  unfold w_X10_queue at h
  show Jg K m 4 H0 w 0 [(0, .ref a0), (1, .int x1), (2, .int x2)] [] (I, J, B)
  refine j_iload_n G 1 1 dX10_queue_0 rfl rfl ?_
  refine j_iconst G (0 : Int32) dX10_queue_1 (by decide) ?_
  refine j_iconst G (5 : Int32) dX10_queue_2 (by decide) ?_
  refine j_ci (rn_S G (n := 3) (As := [.int x1, .int (0 : Int32), .int (5 : Int32)]) (rest := []) (c_X10_isIn K hW l x1 (0 : Int32) (5 : Int32) I J B _ h) ml_X10_190 st_X10_isIn in_X10 co_X10_isIn (by decide +kernel) rfl rfl (by decide) (by decide) rfl rfl (Nat.le_of_ble_eq_true rfl) dX10_queue_3) (fun r1 _ h => ?_)
  refine j_if_ne G 12 dX10_queue_6 (by decide) (fun c2 => ?_) (fun c2 => ?_)
  · have h := h.1 c2
    refine j_aload_n G 0 0 dX10_queue_12 rfl rfl ?_
    refine j_iconst G (0 : Int32) dX10_queue_13 (by decide) ?_
    refine j_iload_n G 1 1 dX10_queue_14 rfl rfl ?_
    refine j_ci (rn_V G hW (ci := 11) (n := 2) (As := [.int (0 : Int32), .int x1]) (rest := []) (c_X10_inQueue K hW l a0 (0 : Int32) x1 k0 I J B _ h) k0 (by decide) rfl ml_X10_86 im_X10_inQueue se_X10_inQueue in_X10 co_X10_inQueue rfl (by decide +kernel) rfl rfl (by decide) (by decide) rfl rfl (Nat.le_of_ble_eq_true rfl) dX10_queue_15) (fun r3 _ h => ?_)
    refine j_istore_n G 3 [(3, .int r3), (0, .ref a0), (1, .int x1), (2, .int x2)] dX10_queue_18 rfl (by decide) rfl ?_
    refine j_iload_n G 3 2 dX10_queue_19 rfl rfl ?_
    refine j_iconst G (-1 : Int32) dX10_queue_20 (by decide) ?_
    refine j_icmp_ne G 26 dX10_queue_21 (by decide) (fun c4 => ?_) (fun c4 => ?_)
    · have h := h.1 c4
      refine j_iload_n G 3 2 dX10_queue_26 rfl rfl ?_
      refine j_iconst G (0 : Int32) dX10_queue_27 (by decide) ?_
      refine j_iload_n G 0 3 dX10_queue_28 rfl rfl ?_
      refine j_iconst G (1 : Int32) dX10_queue_29 (by decide) ?_
      refine j_isub G dX10_queue_30 ?_
      refine j_ci (rn_S G (n := 3) (As := [.int x2, .int (0 : Int32), .int (r3 - (1 : Int32))]) (rest := []) (c_X10_isIn K hW l x2 (0 : Int32) (r3 - (1 : Int32)) I J B _ h) ml_X10_190 st_X10_isIn in_X10 co_X10_isIn (by decide +kernel) rfl rfl (by decide) (by decide) rfl rfl (Nat.le_of_ble_eq_true rfl) dX10_queue_31) (fun r5 _ h => ?_)
      refine j_if_eq G 56 dX10_queue_34 (by decide) (fun c6 => ?_) (fun c6 => ?_)
      · have h := h.1 c6
        refine j_bipush G (-2 : Int32) dX10_queue_56 (by decide) ?_
        exact j_reti G () rfl dX10_queue_58 h rfl
      · have h := h.2 c6
        refine j_aload_n G 1 0 dX10_queue_37 rfl rfl ?_
        have kk7 : kG K (a0 + 1) = (20, 4905) := wk_12_1 hW k0
        refine j_get G hW 11 0 4 (.ref (a0 + 1)) k0 (by decide) rfl (by decide) rfl lay_X10 fl_X10_7 rfl rfl dX10_queue_38 ?_
        refine j_iconst G (0 : Int32) dX10_queue_41 (by decide) ?_
        refine j_iload_n G 2 1 dX10_queue_42 rfl rfl ?_
        refine j_ci (rn_S G (n := 2) (As := [.int (0 : Int32), .int x1]) (rest := [.ref (a0 + 1)]) (c_X10_queueAt K hW l (0 : Int32) x1 I J B _ h) ml_X10_83 st_X10_queueAt in_X10 co_X10_queueAt (by decide +kernel) rfl rfl (by decide) (by decide) rfl rfl (Nat.le_of_ble_eq_true rfl) dX10_queue_43) (fun r8 _ h => ?_)
        refine j_iconst G (1 : Int32) dX10_queue_46 (by decide) ?_
        refine j_iadd G dX10_queue_47 ?_
        refine j_iconst G (3 : Int32) dX10_queue_48 (by decide) ?_
        refine j_iload_n G 3 2 dX10_queue_49 rfl rfl ?_
        refine j_imul G dX10_queue_50 ?_
        refine j_iadd G dX10_queue_51 ?_
        obtain ⟨b9, h⟩ := h
        refine j_iald G hW kk7 b9 dX10_queue_52 ?_
        refine j_goto G 58 dX10_queue_53 (by decide) ?_
        exact j_reti G () rfl dX10_queue_58 h rfl
    · have h := h.2 c4
      refine j_iload_n G 0 3 dX10_queue_24 rfl rfl ?_
      exact j_reti G () rfl dX10_queue_25 h rfl
  · have h := h.2 c2
    refine j_bipush G (-2 : Int32) dX10_queue_9 (by decide) ?_
    exact j_reti G () rfl dX10_queue_11 h rfl
abbrev rm_X10_roomOf : Room := { frames := 1, cells := 0, slots := 0, locals := 22 }
def w_X10_roomOf (a0 : Nat) (x1 : Int32) (I : MI) (Q : Int32 →  Prop) : Prop :=
(w_X10_isIn x1 (0 : Int32) (5 : Int32) (fun r1 =>
((r1 = 0 → Q (-1 : Int32)) ∧
(¬ r1 = 0 → (vp_in ((172 : Int32) + x1) 4905 ∧
Q (I (a0 + 1) (ix ((172 : Int32) + x1))))))))
set_option maxHeartbeats 4000000 in
set_option maxRecDepth 100000 in
theorem c_X10_roomOf (K : Kx) (hW : WFK K) (l : Launch) (a0 : Nat) (x1 : Int32) (k0 : (kG K a0).1 = 12) (I : MI) (J : MJ) (B : MR) (Q : Int32 →  Prop) (h : w_X10_roomOf a0 x1 I Q) : Con K l yX10_roomOf (wsT yX10_roomOf cX10_roomOf 2 (some .int)) rm_X10_roomOf [.ref a0, .int x1] (I, J, B) (va_Qi (S := Unit) (fun r _ => Q r) (fun u t => HP K (I, J, B) t.heap) (AA K)) := by
  refine Con.ofJ RX10 rfl (by decide) (Nat.le_of_ble_eq_true rfl) (fun m H0 w G => ?_)
  unfold w_X10_roomOf at h
  show Jg K m 2 H0 w 0 [(0, .ref a0), (1, .int x1)] [] (I, J, B)
  refine j_iload_n G 1 1 dX10_roomOf_0 rfl rfl ?_
  refine j_iconst G (0 : Int32) dX10_roomOf_1 (by decide) ?_
  refine j_iconst G (5 : Int32) dX10_roomOf_2 (by decide) ?_
  refine j_ci (rn_S G (n := 3) (As := [.int x1, .int (0 : Int32), .int (5 : Int32)]) (rest := []) (c_X10_isIn K hW l x1 (0 : Int32) (5 : Int32) I J B _ h) ml_X10_190 st_X10_isIn in_X10 co_X10_isIn (by decide +kernel) rfl rfl (by decide) (by decide) rfl rfl (Nat.le_of_ble_eq_true rfl) dX10_roomOf_3) (fun r1 _ h => ?_)
  refine j_if_eq G 22 dX10_roomOf_6 (by decide) (fun c2 => ?_) (fun c2 => ?_)
  · have h := h.1 c2
    refine j_iconst G (-1 : Int32) dX10_roomOf_22 (by decide) ?_
    exact j_reti G () rfl dX10_roomOf_23 h rfl
  · have h := h.2 c2
    refine j_aload_n G 0 0 dX10_roomOf_9 rfl rfl ?_
    have kk3 : kG K (a0 + 1) = (20, 4905) := wk_12_1 hW k0
    refine j_get G hW 11 0 4 (.ref (a0 + 1)) k0 (by decide) rfl (by decide) rfl lay_X10 fl_X10_7 rfl rfl dX10_roomOf_10 ?_
    refine j_sipush G (172 : Int32) dX10_roomOf_13 (by decide) ?_
    refine j_iload_n G 1 1 dX10_roomOf_16 rfl rfl ?_
    refine j_iadd G dX10_roomOf_17 ?_
    obtain ⟨b4, h⟩ := h
    refine j_iald G hW kk3 b4 dX10_roomOf_18 ?_
    refine j_goto G 23 dX10_roomOf_19 (by decide) ?_
    exact j_reti G () rfl dX10_roomOf_23 h rfl
abbrev rm_X10_cell : Room := { frames := 1, cells := 0, slots := 0, locals := 22 }
def w_X10_cell (a0 : Nat) (x1 : Int32) (I : MI) (Q : Int32 →  Prop) : Prop :=
(w_X10_isIn x1 (0 : Int32) (31 : Int32) (fun r1 =>
((r1 = 0 → Q (-1 : Int32)) ∧
(¬ r1 = 0 → (vp_in ((178 : Int32) + x1) 4905 ∧
Q (I (a0 + 1) (ix ((178 : Int32) + x1))))))))
set_option maxHeartbeats 4000000 in
set_option maxRecDepth 100000 in
theorem c_X10_cell (K : Kx) (hW : WFK K) (l : Launch) (a0 : Nat) (x1 : Int32) (k0 : (kG K a0).1 = 12) (I : MI) (J : MJ) (B : MR) (Q : Int32 →  Prop) (h : w_X10_cell a0 x1 I Q) : Con K l yX10_cell (wsT yX10_cell cX10_cell 2 (some .int)) rm_X10_cell [.ref a0, .int x1] (I, J, B) (va_Qi (S := Unit) (fun r _ => Q r) (fun u t => HP K (I, J, B) t.heap) (AA K)) := by
  refine Con.ofJ RX10 rfl (by decide) (Nat.le_of_ble_eq_true rfl) (fun m H0 w G => ?_)
  unfold w_X10_cell at h
  show Jg K m 2 H0 w 0 [(0, .ref a0), (1, .int x1)] [] (I, J, B)
  refine j_iload_n G 1 1 dX10_cell_0 rfl rfl ?_
  refine j_iconst G (0 : Int32) dX10_cell_1 (by decide) ?_
  refine j_bipush G (31 : Int32) dX10_cell_2 (by decide) ?_
  refine j_ci (rn_S G (n := 3) (As := [.int x1, .int (0 : Int32), .int (31 : Int32)]) (rest := []) (c_X10_isIn K hW l x1 (0 : Int32) (31 : Int32) I J B _ h) ml_X10_190 st_X10_isIn in_X10 co_X10_isIn (by decide +kernel) rfl rfl (by decide) (by decide) rfl rfl (Nat.le_of_ble_eq_true rfl) dX10_cell_4) (fun r1 _ h => ?_)
  refine j_if_eq G 23 dX10_cell_7 (by decide) (fun c2 => ?_) (fun c2 => ?_)
  · have h := h.1 c2
    refine j_iconst G (-1 : Int32) dX10_cell_23 (by decide) ?_
    exact j_reti G () rfl dX10_cell_24 h rfl
  · have h := h.2 c2
    refine j_aload_n G 0 0 dX10_cell_10 rfl rfl ?_
    have kk3 : kG K (a0 + 1) = (20, 4905) := wk_12_1 hW k0
    refine j_get G hW 11 0 4 (.ref (a0 + 1)) k0 (by decide) rfl (by decide) rfl lay_X10 fl_X10_7 rfl rfl dX10_cell_11 ?_
    refine j_sipush G (178 : Int32) dX10_cell_14 (by decide) ?_
    refine j_iload_n G 1 1 dX10_cell_17 rfl rfl ?_
    refine j_iadd G dX10_cell_18 ?_
    obtain ⟨b4, h⟩ := h
    refine j_iald G hW kk3 b4 dX10_cell_19 ?_
    refine j_goto G 24 dX10_cell_20 (by decide) ?_
    exact j_reti G () rfl dX10_cell_24 h rfl
abbrev rm_X10_register : Room := { frames := 1, cells := 0, slots := 0, locals := 22 }
def w_X10_register (a0 : Nat) (x1 : Int32) (I : MI) (Q : Int32 →  Prop) : Prop :=
(w_X10_isIn x1 (0 : Int32) (7 : Int32) (fun r1 =>
((r1 = 0 → Q (-1 : Int32)) ∧
(¬ r1 = 0 → (vp_in ((210 : Int32) + x1) 4905 ∧
Q (I (a0 + 1) (ix ((210 : Int32) + x1))))))))
set_option maxHeartbeats 4000000 in
set_option maxRecDepth 100000 in
theorem c_X10_register (K : Kx) (hW : WFK K) (l : Launch) (a0 : Nat) (x1 : Int32) (k0 : (kG K a0).1 = 12) (I : MI) (J : MJ) (B : MR) (Q : Int32 →  Prop) (h : w_X10_register a0 x1 I Q) : Con K l yX10_register (wsT yX10_register cX10_register 2 (some .int)) rm_X10_register [.ref a0, .int x1] (I, J, B) (va_Qi (S := Unit) (fun r _ => Q r) (fun u t => HP K (I, J, B) t.heap) (AA K)) := by
  refine Con.ofJ RX10 rfl (by decide) (Nat.le_of_ble_eq_true rfl) (fun m H0 w G => ?_)
  unfold w_X10_register at h
  show Jg K m 2 H0 w 0 [(0, .ref a0), (1, .int x1)] [] (I, J, B)
  refine j_iload_n G 1 1 dX10_register_0 rfl rfl ?_
  refine j_iconst G (0 : Int32) dX10_register_1 (by decide) ?_
  refine j_bipush G (7 : Int32) dX10_register_2 (by decide) ?_
  refine j_ci (rn_S G (n := 3) (As := [.int x1, .int (0 : Int32), .int (7 : Int32)]) (rest := []) (c_X10_isIn K hW l x1 (0 : Int32) (7 : Int32) I J B _ h) ml_X10_190 st_X10_isIn in_X10 co_X10_isIn (by decide +kernel) rfl rfl (by decide) (by decide) rfl rfl (Nat.le_of_ble_eq_true rfl) dX10_register_4) (fun r1 _ h => ?_)
  refine j_if_eq G 23 dX10_register_7 (by decide) (fun c2 => ?_) (fun c2 => ?_)
  · have h := h.1 c2
    refine j_iconst G (-1 : Int32) dX10_register_23 (by decide) ?_
    exact j_reti G () rfl dX10_register_24 h rfl
  · have h := h.2 c2
    refine j_aload_n G 0 0 dX10_register_10 rfl rfl ?_
    have kk3 : kG K (a0 + 1) = (20, 4905) := wk_12_1 hW k0
    refine j_get G hW 11 0 4 (.ref (a0 + 1)) k0 (by decide) rfl (by decide) rfl lay_X10 fl_X10_7 rfl rfl dX10_register_11 ?_
    refine j_sipush G (210 : Int32) dX10_register_14 (by decide) ?_
    refine j_iload_n G 1 1 dX10_register_17 rfl rfl ?_
    refine j_iadd G dX10_register_18 ?_
    obtain ⟨b4, h⟩ := h
    refine j_iald G hW kk3 b4 dX10_register_19 ?_
    refine j_goto G 24 dX10_register_20 (by decide) ?_
    exact j_reti G () rfl dX10_register_24 h rfl
abbrev rm_X10_lays : Room := { frames := 0, cells := 0, slots := 0, locals := 0 }
def w_X10_lays (a0 : Nat) (x1 : Int32) (I : MI) (Q : MI → Prop) : Prop :=
(vp_in (I a0 9) 24 ∧
(∀ I3, I3 = ui I (a0 + 4) (ix (I a0 9)) x1 →
(∀ I4, I4 = ui I3 a0 9 ((I3 a0 9) + (1 : Int32)) →
Q I4)))
set_option maxHeartbeats 4000000 in
set_option maxRecDepth 100000 in
theorem c_X10_lays (K : Kx) (hW : WFK K) (l : Launch) (a0 : Nat) (x1 : Int32) (k0 : (kG K a0).1 = 12) (I : MI) (J : MJ) (B : MR) (Q : MI → Prop) (h : w_X10_lays a0 x1 I Q) : Con K l yX10_lays (wsT yX10_lays cX10_lays 2 none) rm_X10_lays [.ref a0, .int x1] (I, J, B) (va_Qv (S := MI) Q (fun u t => HP K (u, J, B) t.heap) (AA K)) := by
  refine Con.ofJ RX10 rfl (by decide) (Nat.le_of_ble_eq_true rfl) (fun m H0 w G => ?_)
  unfold w_X10_lays at h
  show Jg K m 2 H0 w 0 [(0, .ref a0), (1, .int x1)] [] (I, J, B)
  refine j_aload_n G 0 0 dX10_lays_0 rfl rfl ?_
  have kk1 : kG K (a0 + 4) = (20, 24) := wk_12_4 hW k0
  refine j_get G hW 11 8 7 (.ref (a0 + 4)) k0 (by decide) rfl (by decide) rfl lay_X10 fl_X10_24 rfl rfl dX10_lays_1 ?_
  refine j_aload_n G 0 0 dX10_lays_4 rfl rfl ?_
  refine j_get G hW 11 9 0 (.int (I a0 9)) k0 (by decide) rfl (by decide) rfl lay_X10 fl_X10_236 rfl rfl dX10_lays_5 ?_
  refine j_iload_n G 1 1 dX10_lays_8 rfl rfl ?_
  obtain ⟨b2, h⟩ := h
  refine j_iast G hW kk1 b2 dX10_lays_9 ?_
  refine j_mI (fun I3 eI3 => ?_)
  have h := h I3 eI3
  refine j_aload_n G 0 0 dX10_lays_10 rfl rfl ?_
  refine j_dup G rfl dX10_lays_11 ?_
  refine j_get G hW 11 9 0 (.int (I3 a0 9)) k0 (by decide) rfl (by decide) rfl lay_X10 fl_X10_236 rfl rfl dX10_lays_12 ?_
  refine j_iconst G (1 : Int32) dX10_lays_15 (by decide) ?_
  refine j_iadd G dX10_lays_16 ?_
  refine j_put G hW 11 9 tyX10 (tyX10 9) tyX10_ok nmX10 k0 (by decide) rfl (by decide) rfl lay_X10 fl_X10_236 rfl rfl (tyX10_ok 9 (by decide)) rfl rfl dX10_lays_17 ?_
  refine j_mI (fun I4 eI4 => ?_)
  have h := h I4 eI4
  exact j_retv G I4 dX10_lays_20 h rfl
abbrev rm_X10_word : Room := { frames := 1, cells := 0, slots := 0, locals := 21 }
def w_X10_word_l3 (a0 : Nat) (y1 : Int64)   (Q : MI → Prop) (rec : Int32 → MI → Prop) (x3 : Int32) (I : MI) : Prop :=
((x3 < 0 → Q I) ∧
(¬ x3 < 0 → (((lg_cmp ((y1 >>> (Int32.toInt64 x3 &&& 63)) &&& (255 : Int64)) (0 : Int64)) = 0 → rec (x3 + (-8)) I) ∧
(¬ (lg_cmp ((y1 >>> (Int32.toInt64 x3 &&& 63)) &&& (255 : Int64)) (0 : Int64)) = 0 → (w_X10_lays a0 (Int64.toInt32 ((y1 >>> (Int32.toInt64 x3 &&& 63)) &&& (255 : Int64))) I (fun I3 =>
rec (x3 + (-8)) I3))))))
set_option maxHeartbeats 4000000 in
set_option maxRecDepth 100000 in
theorem m_X10_word_l3 {K : Kx} {l : Launch} {m : MethodId} {H0 : Heap} {Q : MI → Prop} {w : HW} {J : MJ} {B : MR} (G : Gd l rm_X10_word K m RX10 cX10_word 4 H0 none (va_Qv (S := MI) Q (fun u t => HP K (u, J, B) t.heap) (AA K)) w) (hW : WFK K) (a0 : Nat) (y1 : Int64) (x3 : Int32) (ka0 : (kG K a0).1 = 12) (I : MI)   (h : Lp2 (w_X10_word_l3 a0 y1 Q) x3 I) : Jg K m 4 H0 w 3 [(0, .ref a0), (1, .long y1), (3, .int x3)] [] (I, J, B) := by
  obtain ⟨n, h⟩ := h
  refine lpN2_ind (P := (fun (x3 : Int32) (I : MI) => Jg K m 4 H0 w 3 [(0, .ref a0), (1, .long y1), (3, .int x3)] [] (I, J, B))) (fun rec hrec x3 I h => ?_) n x3 I h
  unfold w_X10_word_l3 at h
  refine j_iload_n G 2 3 dX10_word_3 rfl rfl ?_
  refine j_if_lt G 37 dX10_word_4 (by decide) (fun c1 => ?_) (fun c1 => ?_)
  · have h := h.1 c1
    exact j_retv G I dX10_word_37 h rfl
  · have h := h.2 c1
    refine j_lload_n G 1 1 dX10_word_7 rfl rfl ?_
    refine j_iload_n G 2 3 dX10_word_8 rfl rfl ?_
    refine j_lshr G dX10_word_9 ?_
    refine j_ldc2 G (255 : Int64) cl_X10_239 dX10_word_10 ?_
    refine j_land G dX10_word_13 ?_
    refine j_lconst G (0 : Int64) dX10_word_14 (by decide) ?_
    refine j_lcmp G dX10_word_15 ?_
    refine j_if_eq G 31 dX10_word_16 (by decide) (fun c2 => ?_) (fun c2 => ?_)
    · have h := h.1 c2
      refine j_iinc G 2 (x3 + (-8)) [(3, .int (x3 + (-8))), (0, .ref a0), (1, .long y1)] dX10_word_31 rfl rfl (by decide) rfl ?_
      refine j_goto G 3 dX10_word_34 (by decide) ?_
      exact Jg.sub [1, 2, 0] rfl (hrec (x3 + (-8)) I h)
    · have h := h.2 c2
      refine j_aload_n G 0 0 dX10_word_19 rfl rfl ?_
      refine j_lload_n G 1 1 dX10_word_20 rfl rfl ?_
      refine j_iload_n G 2 3 dX10_word_21 rfl rfl ?_
      refine j_lshr G dX10_word_22 ?_
      refine j_ldc2 G (255 : Int64) cl_X10_239 dX10_word_23 ?_
      refine j_land G dX10_word_26 ?_
      refine j_l2i G dX10_word_27 ?_
      refine j_cv (rn_V G hW (ci := 11) (n := 1) (As := [.int (Int64.toInt32 ((y1 >>> (Int32.toInt64 x3 &&& 63)) &&& (255 : Int64)))]) (rest := []) (c_X10_lays K hW l a0 (Int64.toInt32 ((y1 >>> (Int32.toInt64 x3 &&& 63)) &&& (255 : Int64))) ka0 I J B _ h) ka0 (by decide) rfl ml_X10_241 im_X10_lays se_X10_lays in_X10 co_X10_lays rfl (by decide +kernel) rfl rfl (by decide) (by decide) rfl rfl (Nat.le_of_ble_eq_true rfl) dX10_word_28) (fun I3 h => ?_)
      refine j_iinc G 2 (x3 + (-8)) [(3, .int (x3 + (-8))), (0, .ref a0), (1, .long y1)] dX10_word_31 rfl rfl (by decide) rfl ?_
      refine j_goto G 3 dX10_word_34 (by decide) ?_
      exact Jg.sub [1, 2, 0] rfl (hrec (x3 + (-8)) I3 h)
def w_X10_word (a0 : Nat) (y1 : Int64) (I : MI) (Q : MI → Prop) : Prop :=
Lp2 (w_X10_word_l3 a0 y1 Q) (56 : Int32) I
set_option maxHeartbeats 4000000 in
set_option maxRecDepth 100000 in
theorem c_X10_word (K : Kx) (hW : WFK K) (l : Launch) (a0 : Nat) (y1 : Int64) (k0 : (kG K a0).1 = 12) (I : MI) (J : MJ) (B : MR) (Q : MI → Prop) (h : w_X10_word a0 y1 I Q) : Con K l yX10_word (wsT yX10_word cX10_word 4 none) rm_X10_word [.ref a0, .long y1] (I, J, B) (va_Qv (S := MI) Q (fun u t => HP K (u, J, B) t.heap) (AA K)) := by
  refine Con.ofJ RX10 rfl (by decide) (Nat.le_of_ble_eq_true rfl) (fun m H0 w G => ?_)
  unfold w_X10_word at h
  show Jg K m 4 H0 w 0 [(0, .ref a0), (1, .long y1)] [] (I, J, B)
  refine j_bipush G (56 : Int32) dX10_word_0 (by decide) ?_
  refine j_istore_n G 3 [(3, .int (56 : Int32)), (0, .ref a0), (1, .long y1)] dX10_word_2 rfl (by decide) rfl ?_
  refine Jg.sub [1, 2, 0] rfl (m_X10_word_l3 G hW a0 y1 (56 : Int32) k0 I h)
abbrev rm_X10_letter : Room := { frames := 1, cells := 0, slots := 0, locals := 21 }
def w_X10_letter (a0 : Nat) (x1 : Int32) (I : MI) (Q : MI → Prop) : Prop :=
(w_X10_lays a0 (32 : Int32) I (fun I1 =>
(w_X10_lays a0 ((97 : Int32) + x1) I1 (fun I2 =>
Q I2))))
set_option maxHeartbeats 4000000 in
set_option maxRecDepth 100000 in
theorem c_X10_letter (K : Kx) (hW : WFK K) (l : Launch) (a0 : Nat) (x1 : Int32) (k0 : (kG K a0).1 = 12) (I : MI) (J : MJ) (B : MR) (Q : MI → Prop) (h : w_X10_letter a0 x1 I Q) : Con K l yX10_letter (wsT yX10_letter cX10_letter 2 none) rm_X10_letter [.ref a0, .int x1] (I, J, B) (va_Qv (S := MI) Q (fun u t => HP K (u, J, B) t.heap) (AA K)) := by
  refine Con.ofJ RX10 rfl (by decide) (Nat.le_of_ble_eq_true rfl) (fun m H0 w G => ?_)
  unfold w_X10_letter at h
  show Jg K m 2 H0 w 0 [(0, .ref a0), (1, .int x1)] [] (I, J, B)
  refine j_aload_n G 0 0 dX10_letter_0 rfl rfl ?_
  refine j_bipush G (32 : Int32) dX10_letter_1 (by decide) ?_
  refine j_cv (rn_V G hW (ci := 11) (n := 1) (As := [.int (32 : Int32)]) (rest := []) (c_X10_lays K hW l a0 (32 : Int32) k0 I J B _ h) k0 (by decide) rfl ml_X10_241 im_X10_lays se_X10_lays in_X10 co_X10_lays rfl (by decide +kernel) rfl rfl (by decide) (by decide) rfl rfl (Nat.le_of_ble_eq_true rfl) dX10_letter_3) (fun I1 h => ?_)
  refine j_aload_n G 0 0 dX10_letter_6 rfl rfl ?_
  refine j_bipush G (97 : Int32) dX10_letter_7 (by decide) ?_
  refine j_iload_n G 1 1 dX10_letter_9 rfl rfl ?_
  refine j_iadd G dX10_letter_10 ?_
  refine j_cv (rn_V G hW (ci := 11) (n := 1) (As := [.int ((97 : Int32) + x1)]) (rest := []) (c_X10_lays K hW l a0 ((97 : Int32) + x1) k0 I1 J B _ h) k0 (by decide) rfl ml_X10_241 im_X10_lays se_X10_lays in_X10 co_X10_lays rfl (by decide +kernel) rfl rfl (by decide) (by decide) rfl rfl (Nat.le_of_ble_eq_true rfl) dX10_letter_11) (fun I2 h => ?_)
  exact j_retv G I2 dX10_letter_14 h rfl
abbrev rm_X10_number : Room := { frames := 1, cells := 0, slots := 0, locals := 21 }
def w_X10_number_p23 (a0 : Nat) (x1 : Int32)  (I : MI)  (Q : MI → Prop) : Prop :=
((x1 ≤ (9 : Int32) → (w_X10_lays a0 ((48 : Int32) + (x1 - x1 / (10 : Int32) * (10 : Int32))) I (fun I4 =>
Q I4))) ∧
(¬ x1 ≤ (9 : Int32) → (w_X10_lays a0 ((48 : Int32) + ((x1 / (10 : Int32)) - (x1 / (10 : Int32)) / (10 : Int32) * (10 : Int32))) I (fun I5 =>
(w_X10_lays a0 ((48 : Int32) + (x1 - x1 / (10 : Int32) * (10 : Int32))) I5 (fun I6 =>
Q I6))))))
set_option maxHeartbeats 4000000 in
set_option maxRecDepth 100000 in
theorem m_X10_number_p23 {K : Kx} {l : Launch} {m : MethodId} {H0 : Heap} {Q : MI → Prop} {w : HW} {J : MJ} {B : MR} (G : Gd l rm_X10_number K m RX10 cX10_number 2 H0 none (va_Qv (S := MI) Q (fun u t => HP K (u, J, B) t.heap) (AA K)) w) (hW : WFK K) (a0 : Nat) (x1 : Int32)  (ka0 : (kG K a0).1 = 12)  (I : MI)   (h : w_X10_number_p23 a0 x1 I Q) : Jg K m 2 H0 w 23 [(0, .ref a0), (1, .int x1)] [] (I, J, B) := by
  unfold w_X10_number_p23 at h
  refine j_iload_n G 1 1 dX10_number_23 rfl rfl ?_
  refine j_bipush G (9 : Int32) dX10_number_24 (by decide) ?_
  refine j_icmp_le G 43 dX10_number_26 (by decide) (fun c3 => ?_) (fun c3 => ?_)
  · have h := h.1 c3
    refine j_aload_n G 0 0 dX10_number_43 rfl rfl ?_
    refine j_bipush G (48 : Int32) dX10_number_44 (by decide) ?_
    refine j_iload_n G 1 1 dX10_number_46 rfl rfl ?_
    refine j_bipush G (10 : Int32) dX10_number_47 (by decide) ?_
    refine j_irem G (by decide) dX10_number_49 ?_
    refine j_iadd G dX10_number_50 ?_
    refine j_cv (rn_V G hW (ci := 11) (n := 1) (As := [.int ((48 : Int32) + (x1 - x1 / (10 : Int32) * (10 : Int32)))]) (rest := []) (c_X10_lays K hW l a0 ((48 : Int32) + (x1 - x1 / (10 : Int32) * (10 : Int32))) ka0 I J B _ h) ka0 (by decide) rfl ml_X10_241 im_X10_lays se_X10_lays in_X10 co_X10_lays rfl (by decide +kernel) rfl rfl (by decide) (by decide) rfl rfl (Nat.le_of_ble_eq_true rfl) dX10_number_51) (fun I4 h => ?_)
    exact j_retv G I4 dX10_number_54 h rfl
  · have h := h.2 c3
    refine j_aload_n G 0 0 dX10_number_29 rfl rfl ?_
    refine j_bipush G (48 : Int32) dX10_number_30 (by decide) ?_
    refine j_iload_n G 1 1 dX10_number_32 rfl rfl ?_
    refine j_bipush G (10 : Int32) dX10_number_33 (by decide) ?_
    refine j_idiv G (by decide) dX10_number_35 ?_
    refine j_bipush G (10 : Int32) dX10_number_36 (by decide) ?_
    refine j_irem G (by decide) dX10_number_38 ?_
    refine j_iadd G dX10_number_39 ?_
    refine j_cv (rn_V G hW (ci := 11) (n := 1) (As := [.int ((48 : Int32) + ((x1 / (10 : Int32)) - (x1 / (10 : Int32)) / (10 : Int32) * (10 : Int32)))]) (rest := []) (c_X10_lays K hW l a0 ((48 : Int32) + ((x1 / (10 : Int32)) - (x1 / (10 : Int32)) / (10 : Int32) * (10 : Int32))) ka0 I J B _ h) ka0 (by decide) rfl ml_X10_241 im_X10_lays se_X10_lays in_X10 co_X10_lays rfl (by decide +kernel) rfl rfl (by decide) (by decide) rfl rfl (Nat.le_of_ble_eq_true rfl) dX10_number_40) (fun I5 h => ?_)
    refine j_aload_n G 0 0 dX10_number_43 rfl rfl ?_
    refine j_bipush G (48 : Int32) dX10_number_44 (by decide) ?_
    refine j_iload_n G 1 1 dX10_number_46 rfl rfl ?_
    refine j_bipush G (10 : Int32) dX10_number_47 (by decide) ?_
    refine j_irem G (by decide) dX10_number_49 ?_
    refine j_iadd G dX10_number_50 ?_
    refine j_cv (rn_V G hW (ci := 11) (n := 1) (As := [.int ((48 : Int32) + (x1 - x1 / (10 : Int32) * (10 : Int32)))]) (rest := []) (c_X10_lays K hW l a0 ((48 : Int32) + (x1 - x1 / (10 : Int32) * (10 : Int32))) ka0 I5 J B _ h) ka0 (by decide) rfl ml_X10_241 im_X10_lays se_X10_lays in_X10 co_X10_lays rfl (by decide +kernel) rfl rfl (by decide) (by decide) rfl rfl (Nat.le_of_ble_eq_true rfl) dX10_number_51) (fun I6 h => ?_)
    exact j_retv G I6 dX10_number_54 h rfl
def w_X10_number (a0 : Nat) (x1 : Int32) (I : MI) (Q : MI → Prop) : Prop :=
(w_X10_lays a0 (32 : Int32) I (fun I1 =>
((x1 ≤ (99 : Int32) → w_X10_number_p23 a0 x1 I1 Q) ∧
(¬ x1 ≤ (99 : Int32) → (w_X10_lays a0 ((48 : Int32) + (x1 / (100 : Int32))) I1 (fun I7 =>
w_X10_number_p23 a0 x1 I7 Q))))))
set_option maxHeartbeats 4000000 in
set_option maxRecDepth 100000 in
theorem c_X10_number (K : Kx) (hW : WFK K) (l : Launch) (a0 : Nat) (x1 : Int32) (k0 : (kG K a0).1 = 12) (I : MI) (J : MJ) (B : MR) (Q : MI → Prop) (h : w_X10_number a0 x1 I Q) : Con K l yX10_number (wsT yX10_number cX10_number 2 none) rm_X10_number [.ref a0, .int x1] (I, J, B) (va_Qv (S := MI) Q (fun u t => HP K (u, J, B) t.heap) (AA K)) := by
  refine Con.ofJ RX10 rfl (by decide) (Nat.le_of_ble_eq_true rfl) (fun m H0 w G => ?_)
  unfold w_X10_number at h
  show Jg K m 2 H0 w 0 [(0, .ref a0), (1, .int x1)] [] (I, J, B)
  refine j_aload_n G 0 0 dX10_number_0 rfl rfl ?_
  refine j_bipush G (32 : Int32) dX10_number_1 (by decide) ?_
  refine j_cv (rn_V G hW (ci := 11) (n := 1) (As := [.int (32 : Int32)]) (rest := []) (c_X10_lays K hW l a0 (32 : Int32) k0 I J B _ h) k0 (by decide) rfl ml_X10_241 im_X10_lays se_X10_lays in_X10 co_X10_lays rfl (by decide +kernel) rfl rfl (by decide) (by decide) rfl rfl (Nat.le_of_ble_eq_true rfl) dX10_number_3) (fun I1 h => ?_)
  refine j_iload_n G 1 1 dX10_number_6 rfl rfl ?_
  refine j_bipush G (99 : Int32) dX10_number_7 (by decide) ?_
  refine j_icmp_le G 23 dX10_number_9 (by decide) (fun c2 => ?_) (fun c2 => ?_)
  · have h := h.1 c2
    exact m_X10_number_p23 G hW a0 x1 k0 I1 h
  · have h := h.2 c2
    refine j_aload_n G 0 0 dX10_number_12 rfl rfl ?_
    refine j_bipush G (48 : Int32) dX10_number_13 (by decide) ?_
    refine j_iload_n G 1 1 dX10_number_15 rfl rfl ?_
    refine j_bipush G (100 : Int32) dX10_number_16 (by decide) ?_
    refine j_idiv G (by decide) dX10_number_18 ?_
    refine j_iadd G dX10_number_19 ?_
    refine j_cv (rn_V G hW (ci := 11) (n := 1) (As := [.int ((48 : Int32) + (x1 / (100 : Int32)))]) (rest := []) (c_X10_lays K hW l a0 ((48 : Int32) + (x1 / (100 : Int32))) k0 I1 J B _ h) k0 (by decide) rfl ml_X10_241 im_X10_lays se_X10_lays in_X10 co_X10_lays rfl (by decide +kernel) rfl rfl (by decide) (by decide) rfl rfl (Nat.le_of_ble_eq_true rfl) dX10_number_20) (fun I7 h => ?_)
    exact m_X10_number_p23 G hW a0 x1 k0 I7 h
abbrev rm_X10_decides : Room := { frames := 2, cells := 0, slots := 0, locals := 42 }
def w_X10_decides (a0 : Nat) (x1 : Int32) (I : MI) (Q : MI → Prop) : Prop :=
(w_X10_of a0 (0 : Int32) x1 (1 : Int32) I (fun r1 =>
(w_X10_letter a0 r1 I (fun I2 =>
(w_X10_of a0 (0 : Int32) x1 (3 : Int32) I2 (fun r3 =>
(w_X10_lays a0 r3 I2 (fun I4 =>
(w_X10_of a0 (0 : Int32) x1 (2 : Int32) I4 (fun r5 =>
(w_X10_lays a0 ((97 : Int32) + r5) I4 (fun I6 =>
(w_X10_of a0 (0 : Int32) x1 (4 : Int32) I6 (fun r7 =>
(w_X10_number a0 r7 I6 (fun I8 =>
Q I8))))))))))))))))
set_option maxHeartbeats 4000000 in
set_option maxRecDepth 100000 in
theorem c_X10_decides (K : Kx) (hW : WFK K) (l : Launch) (a0 : Nat) (x1 : Int32) (k0 : (kG K a0).1 = 12) (I : MI) (J : MJ) (B : MR) (Q : MI → Prop) (h : w_X10_decides a0 x1 I Q) : Con K l yX10_decides (wsT yX10_decides cX10_decides 2 none) rm_X10_decides [.ref a0, .int x1] (I, J, B) (va_Qv (S := MI) Q (fun u t => HP K (u, J, B) t.heap) (AA K)) := by
  refine Con.ofJ RX10 rfl (by decide) (Nat.le_of_ble_eq_true rfl) (fun m H0 w G => ?_)
  unfold w_X10_decides at h
  show Jg K m 2 H0 w 0 [(0, .ref a0), (1, .int x1)] [] (I, J, B)
  refine j_aload_n G 0 0 dX10_decides_0 rfl rfl ?_
  refine j_aload_n G 0 0 dX10_decides_1 rfl rfl ?_
  refine j_iconst G (0 : Int32) dX10_decides_2 (by decide) ?_
  refine j_iload_n G 1 1 dX10_decides_3 rfl rfl ?_
  refine j_iconst G (1 : Int32) dX10_decides_4 (by decide) ?_
  refine j_ci (rn_V G hW (ci := 11) (n := 3) (As := [.int (0 : Int32), .int x1, .int (1 : Int32)]) (rest := [.ref a0]) (c_X10_of K hW l a0 (0 : Int32) x1 (1 : Int32) k0 I J B _ h) k0 (by decide) rfl ml_X10_54 im_X10_of se_X10_of in_X10 co_X10_of rfl (by decide +kernel) rfl rfl (by decide) (by decide) rfl rfl (Nat.le_of_ble_eq_true rfl) dX10_decides_5) (fun r1 _ h => ?_)
  refine j_cv (rn_V G hW (ci := 11) (n := 1) (As := [.int r1]) (rest := []) (c_X10_letter K hW l a0 r1 k0 I J B _ h) k0 (by decide) rfl ml_X10_244 im_X10_letter se_X10_letter in_X10 co_X10_letter rfl (by decide +kernel) rfl rfl (by decide) (by decide) rfl rfl (Nat.le_of_ble_eq_true rfl) dX10_decides_8) (fun I2 h => ?_)
  refine j_aload_n G 0 0 dX10_decides_11 rfl rfl ?_
  refine j_aload_n G 0 0 dX10_decides_12 rfl rfl ?_
  refine j_iconst G (0 : Int32) dX10_decides_13 (by decide) ?_
  refine j_iload_n G 1 1 dX10_decides_14 rfl rfl ?_
  refine j_iconst G (3 : Int32) dX10_decides_15 (by decide) ?_
  refine j_ci (rn_V G hW (ci := 11) (n := 3) (As := [.int (0 : Int32), .int x1, .int (3 : Int32)]) (rest := [.ref a0]) (c_X10_of K hW l a0 (0 : Int32) x1 (3 : Int32) k0 I2 J B _ h) k0 (by decide) rfl ml_X10_54 im_X10_of se_X10_of in_X10 co_X10_of rfl (by decide +kernel) rfl rfl (by decide) (by decide) rfl rfl (Nat.le_of_ble_eq_true rfl) dX10_decides_16) (fun r3 _ h => ?_)
  refine j_cv (rn_V G hW (ci := 11) (n := 1) (As := [.int r3]) (rest := []) (c_X10_lays K hW l a0 r3 k0 I2 J B _ h) k0 (by decide) rfl ml_X10_241 im_X10_lays se_X10_lays in_X10 co_X10_lays rfl (by decide +kernel) rfl rfl (by decide) (by decide) rfl rfl (Nat.le_of_ble_eq_true rfl) dX10_decides_19) (fun I4 h => ?_)
  refine j_aload_n G 0 0 dX10_decides_22 rfl rfl ?_
  refine j_bipush G (97 : Int32) dX10_decides_23 (by decide) ?_
  refine j_aload_n G 0 0 dX10_decides_25 rfl rfl ?_
  refine j_iconst G (0 : Int32) dX10_decides_26 (by decide) ?_
  refine j_iload_n G 1 1 dX10_decides_27 rfl rfl ?_
  refine j_iconst G (2 : Int32) dX10_decides_28 (by decide) ?_
  refine j_ci (rn_V G hW (ci := 11) (n := 3) (As := [.int (0 : Int32), .int x1, .int (2 : Int32)]) (rest := [.int (97 : Int32), .ref a0]) (c_X10_of K hW l a0 (0 : Int32) x1 (2 : Int32) k0 I4 J B _ h) k0 (by decide) rfl ml_X10_54 im_X10_of se_X10_of in_X10 co_X10_of rfl (by decide +kernel) rfl rfl (by decide) (by decide) rfl rfl (Nat.le_of_ble_eq_true rfl) dX10_decides_29) (fun r5 _ h => ?_)
  refine j_iadd G dX10_decides_32 ?_
  refine j_cv (rn_V G hW (ci := 11) (n := 1) (As := [.int ((97 : Int32) + r5)]) (rest := []) (c_X10_lays K hW l a0 ((97 : Int32) + r5) k0 I4 J B _ h) k0 (by decide) rfl ml_X10_241 im_X10_lays se_X10_lays in_X10 co_X10_lays rfl (by decide +kernel) rfl rfl (by decide) (by decide) rfl rfl (Nat.le_of_ble_eq_true rfl) dX10_decides_33) (fun I6 h => ?_)
  refine j_aload_n G 0 0 dX10_decides_36 rfl rfl ?_
  refine j_aload_n G 0 0 dX10_decides_37 rfl rfl ?_
  refine j_iconst G (0 : Int32) dX10_decides_38 (by decide) ?_
  refine j_iload_n G 1 1 dX10_decides_39 rfl rfl ?_
  refine j_iconst G (4 : Int32) dX10_decides_40 (by decide) ?_
  refine j_ci (rn_V G hW (ci := 11) (n := 3) (As := [.int (0 : Int32), .int x1, .int (4 : Int32)]) (rest := [.ref a0]) (c_X10_of K hW l a0 (0 : Int32) x1 (4 : Int32) k0 I6 J B _ h) k0 (by decide) rfl ml_X10_54 im_X10_of se_X10_of in_X10 co_X10_of rfl (by decide +kernel) rfl rfl (by decide) (by decide) rfl rfl (Nat.le_of_ble_eq_true rfl) dX10_decides_41) (fun r7 _ h => ?_)
  refine j_cv (rn_V G hW (ci := 11) (n := 1) (As := [.int r7]) (rest := []) (c_X10_number K hW l a0 r7 k0 I6 J B _ h) k0 (by decide) rfl ml_X10_247 im_X10_number se_X10_number in_X10 co_X10_number rfl (by decide +kernel) rfl rfl (by decide) (by decide) rfl rfl (Nat.le_of_ble_eq_true rfl) dX10_decides_44) (fun I8 h => ?_)
  exact j_retv G I8 dX10_decides_47 h rfl
abbrev rm_X10_opWord : Room := { frames := 0, cells := 0, slots := 0, locals := 0 }
def w_X10_opWord (x0 : Int32)  (Q : Int64 →  Prop) : Prop :=
((¬ x0 = 0 → ((¬ x0 = (1 : Int32) → ((¬ x0 = (2 : Int32) → Q (7173484 : Int64)) ∧
(x0 = (2 : Int32) → Q (7566690 : Int64)))) ∧
(x0 = (1 : Int32) → Q (6382692 : Int64)))) ∧
(x0 = 0 → Q (7562612 : Int64)))
set_option maxHeartbeats 4000000 in
set_option maxRecDepth 100000 in
theorem c_X10_opWord (K : Kx) (hW : WFK K) (l : Launch) (x0 : Int32)  (I : MI) (J : MJ) (B : MR) (Q : Int64 →  Prop) (h : w_X10_opWord x0 Q) : Con K l yX10_opWord (wsT yX10_opWord cX10_opWord 1 (some .long)) rm_X10_opWord [.int x0] (I, J, B) (va_Ql (S := Unit) (fun r _ => Q r) (fun u t => HP K (I, J, B) t.heap) (AA K)) := by
  refine Con.ofJ RX10 rfl (by decide) (Nat.le_of_ble_eq_true rfl) (fun m H0 w G => ?_)
  unfold w_X10_opWord at h
  show Jg K m 1 H0 w 0 [(0, .int x0)] [] (I, J, B)
  refine j_iload_n G 0 0 dX10_opWord_0 rfl rfl ?_
  refine j_if_ne G 10 dX10_opWord_1 (by decide) (fun c1 => ?_) (fun c1 => ?_)
  · have h := h.1 c1
    refine j_iload_n G 0 0 dX10_opWord_10 rfl rfl ?_
    refine j_iconst G (1 : Int32) dX10_opWord_11 (by decide) ?_
    refine j_icmp_ne G 21 dX10_opWord_12 (by decide) (fun c2 => ?_) (fun c2 => ?_)
    · have h := h.1 c2
      refine j_iload_n G 0 0 dX10_opWord_21 rfl rfl ?_
      refine j_iconst G (2 : Int32) dX10_opWord_22 (by decide) ?_
      refine j_icmp_ne G 32 dX10_opWord_23 (by decide) (fun c3 => ?_) (fun c3 => ?_)
      · have h := h.1 c3
        refine j_ldc2 G (7173484 : Int64) cl_X10_293 dX10_opWord_32 ?_
        exact j_retl G () dX10_opWord_35 h rfl
      · have h := h.2 c3
        refine j_ldc2 G (7566690 : Int64) cl_X10_291 dX10_opWord_26 ?_
        refine j_goto G 35 dX10_opWord_29 (by decide) ?_
        exact j_retl G () dX10_opWord_35 h rfl
    · have h := h.2 c2
      refine j_ldc2 G (6382692 : Int64) cl_X10_289 dX10_opWord_15 ?_
      refine j_goto G 35 dX10_opWord_18 (by decide) ?_
      exact j_retl G () dX10_opWord_35 h rfl
  · have h := h.2 c1
    refine j_ldc2 G (7562612 : Int64) cl_X10_287 dX10_opWord_4 ?_
    refine j_goto G 35 dX10_opWord_7 (by decide) ?_
    exact j_retl G () dX10_opWord_35 h rfl
abbrev rm_X10_tells : Room := { frames := 3, cells := 0, slots := 0, locals := 63 }
def w_X10_tells_p357 (a0 : Nat) (x1 : Int32) (x3 : Int32)  (I : MI)  (Q : MI → Prop) : Prop :=
((x3 = (10 : Int32) → (w_X10_decides a0 x1 I (fun I30 =>
Q I30))) ∧
(¬ x3 = (10 : Int32) → ((¬ x3 = (13 : Int32) → Q I) ∧
(x3 = (13 : Int32) → (w_X10_decides a0 x1 I (fun I32 =>
Q I32))))))
set_option maxHeartbeats 4000000 in
set_option maxRecDepth 100000 in
theorem m_X10_tells_p357 {K : Kx} {l : Launch} {m : MethodId} {H0 : Heap} {Q : MI → Prop} {w : HW} {J : MJ} {B : MR} (G : Gd l rm_X10_tells K m RX10 cX10_tells 5 H0 none (va_Qv (S := MI) Q (fun u t => HP K (u, J, B) t.heap) (AA K)) w) (hW : WFK K) (a0 : Nat) (x1 : Int32) (x3 : Int32)  (ka0 : (kG K a0).1 = 12)  (I : MI)   (h : w_X10_tells_p357 a0 x1 x3 I Q) : Jg K m 5 H0 w 357 [(0, .ref a0), (1, .int x1), (3, .int x3)] [] (I, J, B) := by
  unfold w_X10_tells_p357 at h
  refine j_iload_n G 2 3 dX10_tells_357 rfl rfl ?_
  refine j_bipush G (10 : Int32) dX10_tells_358 (by decide) ?_
  refine j_icmp_eq G 369 dX10_tells_360 (by decide) (fun c29 => ?_) (fun c29 => ?_)
  · have h := h.1 c29
    refine j_aload_n G 0 0 dX10_tells_369 rfl rfl ?_
    refine j_iload_n G 1 1 dX10_tells_370 rfl rfl ?_
    refine j_cv (rn_V G hW (ci := 11) (n := 1) (As := [.int x1]) (rest := []) (c_X10_decides K hW l a0 x1 ka0 I J B _ h) ka0 (by decide) rfl ml_X10_284 im_X10_decides se_X10_decides in_X10 co_X10_decides rfl (by decide +kernel) rfl rfl (by decide) (by decide) rfl rfl (Nat.le_of_ble_eq_true rfl) dX10_tells_371) (fun I30 h => ?_)
    exact j_retv G I30 dX10_tells_374 h rfl
  · have h := h.2 c29
    refine j_iload_n G 2 3 dX10_tells_363 rfl rfl ?_
    refine j_bipush G (13 : Int32) dX10_tells_364 (by decide) ?_
    refine j_icmp_ne G 374 dX10_tells_366 (by decide) (fun c31 => ?_) (fun c31 => ?_)
    · have h := h.1 c31
      exact j_retv G I dX10_tells_374 h rfl
    · have h := h.2 c31
      refine j_aload_n G 0 0 dX10_tells_369 rfl rfl ?_
      refine j_iload_n G 1 1 dX10_tells_370 rfl rfl ?_
      refine j_cv (rn_V G hW (ci := 11) (n := 1) (As := [.int x1]) (rest := []) (c_X10_decides K hW l a0 x1 ka0 I J B _ h) ka0 (by decide) rfl ml_X10_284 im_X10_decides se_X10_decides in_X10 co_X10_decides rfl (by decide +kernel) rfl rfl (by decide) (by decide) rfl rfl (Nat.le_of_ble_eq_true rfl) dX10_tells_371) (fun I32 h => ?_)
      exact j_retv G I32 dX10_tells_374 h rfl
def w_X10_tells_p346 (a0 : Nat) (x1 : Int32) (x3 : Int32)  (I : MI)  (Q : MI → Prop) : Prop :=
(w_X10_of a0 (0 : Int32) x1 (4 : Int32) I (fun r27 =>
(w_X10_number a0 r27 I (fun I28 =>
w_X10_tells_p357 a0 x1 x3 I28 Q))))
set_option maxHeartbeats 4000000 in
set_option maxRecDepth 100000 in
theorem m_X10_tells_p346 {K : Kx} {l : Launch} {m : MethodId} {H0 : Heap} {Q : MI → Prop} {w : HW} {J : MJ} {B : MR} (G : Gd l rm_X10_tells K m RX10 cX10_tells 5 H0 none (va_Qv (S := MI) Q (fun u t => HP K (u, J, B) t.heap) (AA K)) w) (hW : WFK K) (a0 : Nat) (x1 : Int32) (x3 : Int32)  (ka0 : (kG K a0).1 = 12)  (I : MI)   (h : w_X10_tells_p346 a0 x1 x3 I Q) : Jg K m 5 H0 w 346 [(0, .ref a0), (1, .int x1), (3, .int x3)] [] (I, J, B) := by
  unfold w_X10_tells_p346 at h
  refine j_aload_n G 0 0 dX10_tells_346 rfl rfl ?_
  refine j_aload_n G 0 0 dX10_tells_347 rfl rfl ?_
  refine j_iconst G (0 : Int32) dX10_tells_348 (by decide) ?_
  refine j_iload_n G 1 1 dX10_tells_349 rfl rfl ?_
  refine j_iconst G (4 : Int32) dX10_tells_350 (by decide) ?_
  refine j_ci (rn_V G hW (ci := 11) (n := 3) (As := [.int (0 : Int32), .int x1, .int (4 : Int32)]) (rest := [.ref a0]) (c_X10_of K hW l a0 (0 : Int32) x1 (4 : Int32) ka0 I J B _ h) ka0 (by decide) rfl ml_X10_54 im_X10_of se_X10_of in_X10 co_X10_of rfl (by decide +kernel) rfl rfl (by decide) (by decide) rfl rfl (Nat.le_of_ble_eq_true rfl) dX10_tells_351) (fun r27 _ h => ?_)
  refine j_cv (rn_V G hW (ci := 11) (n := 1) (As := [.int r27]) (rest := []) (c_X10_number K hW l a0 r27 ka0 I J B _ h) ka0 (by decide) rfl ml_X10_247 im_X10_number se_X10_number in_X10 co_X10_number rfl (by decide +kernel) rfl rfl (by decide) (by decide) rfl rfl (Nat.le_of_ble_eq_true rfl) dX10_tells_354) (fun I28 h => ?_)
  exact m_X10_tells_p357 G hW a0 x1 x3 ka0 I28 h
def w_X10_tells_p312 (a0 : Nat) (x1 : Int32) (x3 : Int32) (x4 : Int32)  (I : MI)  (Q : MI → Prop) : Prop :=
((¬ x4 = 0 → w_X10_tells_p346 a0 x1 x3 I Q) ∧
(x4 = 0 → ((x3 = (4 : Int32) → w_X10_tells_p346 a0 x1 x3 I Q) ∧
(¬ x3 = (4 : Int32) → ((x3 = (7 : Int32) → w_X10_tells_p346 a0 x1 x3 I Q) ∧
(¬ x3 = (7 : Int32) → ((x3 = (9 : Int32) → w_X10_tells_p346 a0 x1 x3 I Q) ∧
(¬ x3 = (9 : Int32) → ((x3 = (11 : Int32) → w_X10_tells_p346 a0 x1 x3 I Q) ∧
(¬ x3 = (11 : Int32) → ((¬ x3 = (12 : Int32) → w_X10_tells_p357 a0 x1 x3 I Q) ∧
(x3 = (12 : Int32) → w_X10_tells_p346 a0 x1 x3 I Q))))))))))))
set_option maxHeartbeats 4000000 in
set_option maxRecDepth 100000 in
theorem m_X10_tells_p312 {K : Kx} {l : Launch} {m : MethodId} {H0 : Heap} {Q : MI → Prop} {w : HW} {J : MJ} {B : MR} (G : Gd l rm_X10_tells K m RX10 cX10_tells 5 H0 none (va_Qv (S := MI) Q (fun u t => HP K (u, J, B) t.heap) (AA K)) w) (hW : WFK K) (a0 : Nat) (x1 : Int32) (x3 : Int32) (x4 : Int32)  (ka0 : (kG K a0).1 = 12)  (I : MI)   (h : w_X10_tells_p312 a0 x1 x3 x4 I Q) : Jg K m 5 H0 w 312 [(0, .ref a0), (1, .int x1), (3, .int x3), (4, .int x4)] [] (I, J, B) := by
  unfold w_X10_tells_p312 at h
  refine j_iload G 3 dX10_tells_312 rfl ?_
  refine j_if_ne G 346 dX10_tells_314 (by decide) (fun c26 => ?_) (fun c26 => ?_)
  · have h := h.1 c26
    exact Jg.sub [0, 1, 2] rfl (m_X10_tells_p346 G hW a0 x1 x3 ka0 I h)
  · have h := h.2 c26
    refine j_iload_n G 2 3 dX10_tells_317 rfl rfl ?_
    refine j_iconst G (4 : Int32) dX10_tells_318 (by decide) ?_
    refine j_icmp_eq G 346 dX10_tells_319 (by decide) (fun c33 => ?_) (fun c33 => ?_)
    · have h := h.1 c33
      exact Jg.sub [0, 1, 2] rfl (m_X10_tells_p346 G hW a0 x1 x3 ka0 I h)
    · have h := h.2 c33
      refine j_iload_n G 2 3 dX10_tells_322 rfl rfl ?_
      refine j_bipush G (7 : Int32) dX10_tells_323 (by decide) ?_
      refine j_icmp_eq G 346 dX10_tells_325 (by decide) (fun c34 => ?_) (fun c34 => ?_)
      · have h := h.1 c34
        exact Jg.sub [0, 1, 2] rfl (m_X10_tells_p346 G hW a0 x1 x3 ka0 I h)
      · have h := h.2 c34
        refine j_iload_n G 2 3 dX10_tells_328 rfl rfl ?_
        refine j_bipush G (9 : Int32) dX10_tells_329 (by decide) ?_
        refine j_icmp_eq G 346 dX10_tells_331 (by decide) (fun c35 => ?_) (fun c35 => ?_)
        · have h := h.1 c35
          exact Jg.sub [0, 1, 2] rfl (m_X10_tells_p346 G hW a0 x1 x3 ka0 I h)
        · have h := h.2 c35
          refine j_iload_n G 2 3 dX10_tells_334 rfl rfl ?_
          refine j_bipush G (11 : Int32) dX10_tells_335 (by decide) ?_
          refine j_icmp_eq G 346 dX10_tells_337 (by decide) (fun c36 => ?_) (fun c36 => ?_)
          · have h := h.1 c36
            exact Jg.sub [0, 1, 2] rfl (m_X10_tells_p346 G hW a0 x1 x3 ka0 I h)
          · have h := h.2 c36
            refine j_iload_n G 2 3 dX10_tells_340 rfl rfl ?_
            refine j_bipush G (12 : Int32) dX10_tells_341 (by decide) ?_
            refine j_icmp_ne G 357 dX10_tells_343 (by decide) (fun c37 => ?_) (fun c37 => ?_)
            · have h := h.1 c37
              exact Jg.sub [0, 1, 2] rfl (m_X10_tells_p357 G hW a0 x1 x3 ka0 I h)
            · have h := h.2 c37
              exact Jg.sub [0, 1, 2] rfl (m_X10_tells_p346 G hW a0 x1 x3 ka0 I h)
def w_X10_tells_p298 (a0 : Nat) (x1 : Int32) (x3 : Int32) (x4 : Int32)  (I : MI)  (Q : MI → Prop) : Prop :=
((¬ x3 = (2 : Int32) → w_X10_tells_p312 a0 x1 x3 x4 I Q) ∧
(x3 = (2 : Int32) → (w_X10_opOf a0 (0 : Int32) x1 I (fun r38 =>
((r38 = 0 → w_X10_tells_p346 a0 x1 x3 I Q) ∧
(¬ r38 = 0 → w_X10_tells_p312 a0 x1 x3 x4 I Q))))))
set_option maxHeartbeats 4000000 in
set_option maxRecDepth 100000 in
theorem m_X10_tells_p298 {K : Kx} {l : Launch} {m : MethodId} {H0 : Heap} {Q : MI → Prop} {w : HW} {J : MJ} {B : MR} (G : Gd l rm_X10_tells K m RX10 cX10_tells 5 H0 none (va_Qv (S := MI) Q (fun u t => HP K (u, J, B) t.heap) (AA K)) w) (hW : WFK K) (a0 : Nat) (x1 : Int32) (x3 : Int32) (x4 : Int32)  (ka0 : (kG K a0).1 = 12)  (I : MI)   (h : w_X10_tells_p298 a0 x1 x3 x4 I Q) : Jg K m 5 H0 w 298 [(0, .ref a0), (1, .int x1), (3, .int x3), (4, .int x4)] [] (I, J, B) := by
  unfold w_X10_tells_p298 at h
  refine j_iload_n G 2 3 dX10_tells_298 rfl rfl ?_
  refine j_iconst G (2 : Int32) dX10_tells_299 (by decide) ?_
  refine j_icmp_ne G 312 dX10_tells_300 (by decide) (fun c25 => ?_) (fun c25 => ?_)
  · have h := h.1 c25
    exact m_X10_tells_p312 G hW a0 x1 x3 x4 ka0 I h
  · have h := h.2 c25
    refine j_aload_n G 0 0 dX10_tells_303 rfl rfl ?_
    refine j_iconst G (0 : Int32) dX10_tells_304 (by decide) ?_
    refine j_iload_n G 1 1 dX10_tells_305 rfl rfl ?_
    refine j_ci (rn_V G hW (ci := 11) (n := 2) (As := [.int (0 : Int32), .int x1]) (rest := []) (c_X10_opOf K hW l a0 (0 : Int32) x1 ka0 I J B _ h) ka0 (by decide) rfl ml_X10_58 im_X10_opOf se_X10_opOf in_X10 co_X10_opOf rfl (by decide +kernel) rfl rfl (by decide) (by decide) rfl rfl (Nat.le_of_ble_eq_true rfl) dX10_tells_306) (fun r38 _ h => ?_)
    refine j_if_eq G 346 dX10_tells_309 (by decide) (fun c39 => ?_) (fun c39 => ?_)
    · have h := h.1 c39
      exact Jg.sub [0, 1, 2] rfl (m_X10_tells_p346 G hW a0 x1 x3 ka0 I h)
    · have h := h.2 c39
      exact m_X10_tells_p312 G hW a0 x1 x3 x4 ka0 I h
def w_X10_tells_p273 (a0 : Nat) (x1 : Int32) (x3 : Int32) (x4 : Int32)  (I : MI)  (Q : MI → Prop) : Prop :=
((¬ x3 = (2 : Int32) → w_X10_tells_p298 a0 x1 x3 x4 I Q) ∧
(x3 = (2 : Int32) → (w_X10_opOf a0 (0 : Int32) x1 I (fun r40 =>
((r40 = 0 → w_X10_tells_p298 a0 x1 x3 x4 I Q) ∧
(¬ r40 = 0 → (w_X10_of a0 (0 : Int32) x1 (3 : Int32) I (fun r42 =>
(w_X10_letter a0 r42 I (fun I43 =>
w_X10_tells_p298 a0 x1 x3 x4 I43 Q))))))))))
set_option maxHeartbeats 4000000 in
set_option maxRecDepth 100000 in
theorem m_X10_tells_p273 {K : Kx} {l : Launch} {m : MethodId} {H0 : Heap} {Q : MI → Prop} {w : HW} {J : MJ} {B : MR} (G : Gd l rm_X10_tells K m RX10 cX10_tells 5 H0 none (va_Qv (S := MI) Q (fun u t => HP K (u, J, B) t.heap) (AA K)) w) (hW : WFK K) (a0 : Nat) (x1 : Int32) (x3 : Int32) (x4 : Int32)  (ka0 : (kG K a0).1 = 12)  (I : MI)   (h : w_X10_tells_p273 a0 x1 x3 x4 I Q) : Jg K m 5 H0 w 273 [(0, .ref a0), (1, .int x1), (3, .int x3), (4, .int x4)] [] (I, J, B) := by
  unfold w_X10_tells_p273 at h
  refine j_iload_n G 2 3 dX10_tells_273 rfl rfl ?_
  refine j_iconst G (2 : Int32) dX10_tells_274 (by decide) ?_
  refine j_icmp_ne G 298 dX10_tells_275 (by decide) (fun c24 => ?_) (fun c24 => ?_)
  · have h := h.1 c24
    exact m_X10_tells_p298 G hW a0 x1 x3 x4 ka0 I h
  · have h := h.2 c24
    refine j_aload_n G 0 0 dX10_tells_278 rfl rfl ?_
    refine j_iconst G (0 : Int32) dX10_tells_279 (by decide) ?_
    refine j_iload_n G 1 1 dX10_tells_280 rfl rfl ?_
    refine j_ci (rn_V G hW (ci := 11) (n := 2) (As := [.int (0 : Int32), .int x1]) (rest := []) (c_X10_opOf K hW l a0 (0 : Int32) x1 ka0 I J B _ h) ka0 (by decide) rfl ml_X10_58 im_X10_opOf se_X10_opOf in_X10 co_X10_opOf rfl (by decide +kernel) rfl rfl (by decide) (by decide) rfl rfl (Nat.le_of_ble_eq_true rfl) dX10_tells_281) (fun r40 _ h => ?_)
    refine j_if_eq G 298 dX10_tells_284 (by decide) (fun c41 => ?_) (fun c41 => ?_)
    · have h := h.1 c41
      exact m_X10_tells_p298 G hW a0 x1 x3 x4 ka0 I h
    · have h := h.2 c41
      refine j_aload_n G 0 0 dX10_tells_287 rfl rfl ?_
      refine j_aload_n G 0 0 dX10_tells_288 rfl rfl ?_
      refine j_iconst G (0 : Int32) dX10_tells_289 (by decide) ?_
      refine j_iload_n G 1 1 dX10_tells_290 rfl rfl ?_
      refine j_iconst G (3 : Int32) dX10_tells_291 (by decide) ?_
      refine j_ci (rn_V G hW (ci := 11) (n := 3) (As := [.int (0 : Int32), .int x1, .int (3 : Int32)]) (rest := [.ref a0]) (c_X10_of K hW l a0 (0 : Int32) x1 (3 : Int32) ka0 I J B _ h) ka0 (by decide) rfl ml_X10_54 im_X10_of se_X10_of in_X10 co_X10_of rfl (by decide +kernel) rfl rfl (by decide) (by decide) rfl rfl (Nat.le_of_ble_eq_true rfl) dX10_tells_292) (fun r42 _ h => ?_)
      refine j_cv (rn_V G hW (ci := 11) (n := 1) (As := [.int r42]) (rest := []) (c_X10_letter K hW l a0 r42 ka0 I J B _ h) ka0 (by decide) rfl ml_X10_244 im_X10_letter se_X10_letter in_X10 co_X10_letter rfl (by decide +kernel) rfl rfl (by decide) (by decide) rfl rfl (Nat.le_of_ble_eq_true rfl) dX10_tells_295) (fun I43 h => ?_)
      exact m_X10_tells_p298 G hW a0 x1 x3 x4 ka0 I43 h
def w_X10_tells_p262 (a0 : Nat) (x1 : Int32) (x3 : Int32) (x4 : Int32)  (I : MI)  (Q : MI → Prop) : Prop :=
(w_X10_of a0 (0 : Int32) x1 (2 : Int32) I (fun r22 =>
(w_X10_letter a0 r22 I (fun I23 =>
w_X10_tells_p273 a0 x1 x3 x4 I23 Q))))
set_option maxHeartbeats 4000000 in
set_option maxRecDepth 100000 in
theorem m_X10_tells_p262 {K : Kx} {l : Launch} {m : MethodId} {H0 : Heap} {Q : MI → Prop} {w : HW} {J : MJ} {B : MR} (G : Gd l rm_X10_tells K m RX10 cX10_tells 5 H0 none (va_Qv (S := MI) Q (fun u t => HP K (u, J, B) t.heap) (AA K)) w) (hW : WFK K) (a0 : Nat) (x1 : Int32) (x3 : Int32) (x4 : Int32)  (ka0 : (kG K a0).1 = 12)  (I : MI)   (h : w_X10_tells_p262 a0 x1 x3 x4 I Q) : Jg K m 5 H0 w 262 [(0, .ref a0), (1, .int x1), (3, .int x3), (4, .int x4)] [] (I, J, B) := by
  unfold w_X10_tells_p262 at h
  refine j_aload_n G 0 0 dX10_tells_262 rfl rfl ?_
  refine j_aload_n G 0 0 dX10_tells_263 rfl rfl ?_
  refine j_iconst G (0 : Int32) dX10_tells_264 (by decide) ?_
  refine j_iload_n G 1 1 dX10_tells_265 rfl rfl ?_
  refine j_iconst G (2 : Int32) dX10_tells_266 (by decide) ?_
  refine j_ci (rn_V G hW (ci := 11) (n := 3) (As := [.int (0 : Int32), .int x1, .int (2 : Int32)]) (rest := [.ref a0]) (c_X10_of K hW l a0 (0 : Int32) x1 (2 : Int32) ka0 I J B _ h) ka0 (by decide) rfl ml_X10_54 im_X10_of se_X10_of in_X10 co_X10_of rfl (by decide +kernel) rfl rfl (by decide) (by decide) rfl rfl (Nat.le_of_ble_eq_true rfl) dX10_tells_267) (fun r22 _ h => ?_)
  refine j_cv (rn_V G hW (ci := 11) (n := 1) (As := [.int r22]) (rest := []) (c_X10_letter K hW l a0 r22 ka0 I J B _ h) ka0 (by decide) rfl ml_X10_244 im_X10_letter se_X10_letter in_X10 co_X10_letter rfl (by decide +kernel) rfl rfl (by decide) (by decide) rfl rfl (Nat.le_of_ble_eq_true rfl) dX10_tells_270) (fun I23 h => ?_)
  exact m_X10_tells_p273 G hW a0 x1 x3 x4 ka0 I23 h
def w_X10_tells_p232 (a0 : Nat) (x1 : Int32) (x3 : Int32) (x4 : Int32)  (I : MI)  (Q : MI → Prop) : Prop :=
((¬ x4 = 0 → w_X10_tells_p262 a0 x1 x3 x4 I Q) ∧
(x4 = 0 → ((x3 = (4 : Int32) → w_X10_tells_p262 a0 x1 x3 x4 I Q) ∧
(¬ x3 = (4 : Int32) → ((x3 = (7 : Int32) → w_X10_tells_p262 a0 x1 x3 x4 I Q) ∧
(¬ x3 = (7 : Int32) → ((¬ x3 = (2 : Int32) → w_X10_tells_p273 a0 x1 x3 x4 I Q) ∧
(x3 = (2 : Int32) → (w_X10_opOf a0 (0 : Int32) x1 I (fun r47 =>
((r47 = 0 → w_X10_tells_p273 a0 x1 x3 x4 I Q) ∧
(¬ r47 = 0 → w_X10_tells_p262 a0 x1 x3 x4 I Q))))))))))))
set_option maxHeartbeats 4000000 in
set_option maxRecDepth 100000 in
theorem m_X10_tells_p232 {K : Kx} {l : Launch} {m : MethodId} {H0 : Heap} {Q : MI → Prop} {w : HW} {J : MJ} {B : MR} (G : Gd l rm_X10_tells K m RX10 cX10_tells 5 H0 none (va_Qv (S := MI) Q (fun u t => HP K (u, J, B) t.heap) (AA K)) w) (hW : WFK K) (a0 : Nat) (x1 : Int32) (x3 : Int32) (x4 : Int32)  (ka0 : (kG K a0).1 = 12)  (I : MI)   (h : w_X10_tells_p232 a0 x1 x3 x4 I Q) : Jg K m 5 H0 w 232 [(0, .ref a0), (1, .int x1), (3, .int x3), (4, .int x4)] [] (I, J, B) := by
  unfold w_X10_tells_p232 at h
  refine j_iload G 3 dX10_tells_232 rfl ?_
  refine j_if_ne G 262 dX10_tells_234 (by decide) (fun c21 => ?_) (fun c21 => ?_)
  · have h := h.1 c21
    exact m_X10_tells_p262 G hW a0 x1 x3 x4 ka0 I h
  · have h := h.2 c21
    refine j_iload_n G 2 3 dX10_tells_237 rfl rfl ?_
    refine j_iconst G (4 : Int32) dX10_tells_238 (by decide) ?_
    refine j_icmp_eq G 262 dX10_tells_239 (by decide) (fun c44 => ?_) (fun c44 => ?_)
    · have h := h.1 c44
      exact m_X10_tells_p262 G hW a0 x1 x3 x4 ka0 I h
    · have h := h.2 c44
      refine j_iload_n G 2 3 dX10_tells_242 rfl rfl ?_
      refine j_bipush G (7 : Int32) dX10_tells_243 (by decide) ?_
      refine j_icmp_eq G 262 dX10_tells_245 (by decide) (fun c45 => ?_) (fun c45 => ?_)
      · have h := h.1 c45
        exact m_X10_tells_p262 G hW a0 x1 x3 x4 ka0 I h
      · have h := h.2 c45
        refine j_iload_n G 2 3 dX10_tells_248 rfl rfl ?_
        refine j_iconst G (2 : Int32) dX10_tells_249 (by decide) ?_
        refine j_icmp_ne G 273 dX10_tells_250 (by decide) (fun c46 => ?_) (fun c46 => ?_)
        · have h := h.1 c46
          exact m_X10_tells_p273 G hW a0 x1 x3 x4 ka0 I h
        · have h := h.2 c46
          refine j_aload_n G 0 0 dX10_tells_253 rfl rfl ?_
          refine j_iconst G (0 : Int32) dX10_tells_254 (by decide) ?_
          refine j_iload_n G 1 1 dX10_tells_255 rfl rfl ?_
          refine j_ci (rn_V G hW (ci := 11) (n := 2) (As := [.int (0 : Int32), .int x1]) (rest := []) (c_X10_opOf K hW l a0 (0 : Int32) x1 ka0 I J B _ h) ka0 (by decide) rfl ml_X10_58 im_X10_opOf se_X10_opOf in_X10 co_X10_opOf rfl (by decide +kernel) rfl rfl (by decide) (by decide) rfl rfl (Nat.le_of_ble_eq_true rfl) dX10_tells_256) (fun r47 _ h => ?_)
          refine j_if_eq G 273 dX10_tells_259 (by decide) (fun c48 => ?_) (fun c48 => ?_)
          · have h := h.1 c48
            exact m_X10_tells_p273 G hW a0 x1 x3 x4 ka0 I h
          · have h := h.2 c48
            exact m_X10_tells_p262 G hW a0 x1 x3 x4 ka0 I h
def w_X10_tells_p221 (a0 : Nat) (x1 : Int32) (x3 : Int32) (x4 : Int32)  (I : MI)  (Q : MI → Prop) : Prop :=
(w_X10_of a0 (0 : Int32) x1 (1 : Int32) I (fun r19 =>
(w_X10_letter a0 r19 I (fun I20 =>
w_X10_tells_p232 a0 x1 x3 x4 I20 Q))))
set_option maxHeartbeats 4000000 in
set_option maxRecDepth 100000 in
theorem m_X10_tells_p221 {K : Kx} {l : Launch} {m : MethodId} {H0 : Heap} {Q : MI → Prop} {w : HW} {J : MJ} {B : MR} (G : Gd l rm_X10_tells K m RX10 cX10_tells 5 H0 none (va_Qv (S := MI) Q (fun u t => HP K (u, J, B) t.heap) (AA K)) w) (hW : WFK K) (a0 : Nat) (x1 : Int32) (x3 : Int32) (x4 : Int32)  (ka0 : (kG K a0).1 = 12)  (I : MI)   (h : w_X10_tells_p221 a0 x1 x3 x4 I Q) : Jg K m 5 H0 w 221 [(0, .ref a0), (1, .int x1), (3, .int x3), (4, .int x4)] [] (I, J, B) := by
  unfold w_X10_tells_p221 at h
  refine j_aload_n G 0 0 dX10_tells_221 rfl rfl ?_
  refine j_aload_n G 0 0 dX10_tells_222 rfl rfl ?_
  refine j_iconst G (0 : Int32) dX10_tells_223 (by decide) ?_
  refine j_iload_n G 1 1 dX10_tells_224 rfl rfl ?_
  refine j_iconst G (1 : Int32) dX10_tells_225 (by decide) ?_
  refine j_ci (rn_V G hW (ci := 11) (n := 3) (As := [.int (0 : Int32), .int x1, .int (1 : Int32)]) (rest := [.ref a0]) (c_X10_of K hW l a0 (0 : Int32) x1 (1 : Int32) ka0 I J B _ h) ka0 (by decide) rfl ml_X10_54 im_X10_of se_X10_of in_X10 co_X10_of rfl (by decide +kernel) rfl rfl (by decide) (by decide) rfl rfl (Nat.le_of_ble_eq_true rfl) dX10_tells_226) (fun r19 _ h => ?_)
  refine j_cv (rn_V G hW (ci := 11) (n := 1) (As := [.int r19]) (rest := []) (c_X10_letter K hW l a0 r19 ka0 I J B _ h) ka0 (by decide) rfl ml_X10_244 im_X10_letter se_X10_letter in_X10 co_X10_letter rfl (by decide +kernel) rfl rfl (by decide) (by decide) rfl rfl (Nat.le_of_ble_eq_true rfl) dX10_tells_229) (fun I20 h => ?_)
  exact m_X10_tells_p232 G hW a0 x1 x3 x4 ka0 I20 h
def w_X10_tells_p200 (a0 : Nat) (x1 : Int32) (x3 : Int32) (x4 : Int32)  (I : MI)  (Q : MI → Prop) : Prop :=
((¬ x4 = 0 → w_X10_tells_p221 a0 x1 x3 x4 I Q) ∧
(x4 = 0 → ((x3 = (5 : Int32) → w_X10_tells_p221 a0 x1 x3 x4 I Q) ∧
(¬ x3 = (5 : Int32) → ((x3 = (8 : Int32) → w_X10_tells_p221 a0 x1 x3 x4 I Q) ∧
(¬ x3 = (8 : Int32) → ((¬ x3 = (2 : Int32) → w_X10_tells_p232 a0 x1 x3 x4 I Q) ∧
(x3 = (2 : Int32) → w_X10_tells_p221 a0 x1 x3 x4 I Q))))))))
set_option maxHeartbeats 4000000 in
set_option maxRecDepth 100000 in
theorem m_X10_tells_p200 {K : Kx} {l : Launch} {m : MethodId} {H0 : Heap} {Q : MI → Prop} {w : HW} {J : MJ} {B : MR} (G : Gd l rm_X10_tells K m RX10 cX10_tells 5 H0 none (va_Qv (S := MI) Q (fun u t => HP K (u, J, B) t.heap) (AA K)) w) (hW : WFK K) (a0 : Nat) (x1 : Int32) (x3 : Int32) (x4 : Int32)  (ka0 : (kG K a0).1 = 12)  (I : MI)   (h : w_X10_tells_p200 a0 x1 x3 x4 I Q) : Jg K m 5 H0 w 200 [(0, .ref a0), (1, .int x1), (3, .int x3), (4, .int x4)] [] (I, J, B) := by
  unfold w_X10_tells_p200 at h
  refine j_iload G 3 dX10_tells_200 rfl ?_
  refine j_if_ne G 221 dX10_tells_202 (by decide) (fun c18 => ?_) (fun c18 => ?_)
  · have h := h.1 c18
    exact m_X10_tells_p221 G hW a0 x1 x3 x4 ka0 I h
  · have h := h.2 c18
    refine j_iload_n G 2 3 dX10_tells_205 rfl rfl ?_
    refine j_iconst G (5 : Int32) dX10_tells_206 (by decide) ?_
    refine j_icmp_eq G 221 dX10_tells_207 (by decide) (fun c49 => ?_) (fun c49 => ?_)
    · have h := h.1 c49
      exact m_X10_tells_p221 G hW a0 x1 x3 x4 ka0 I h
    · have h := h.2 c49
      refine j_iload_n G 2 3 dX10_tells_210 rfl rfl ?_
      refine j_bipush G (8 : Int32) dX10_tells_211 (by decide) ?_
      refine j_icmp_eq G 221 dX10_tells_213 (by decide) (fun c50 => ?_) (fun c50 => ?_)
      · have h := h.1 c50
        exact m_X10_tells_p221 G hW a0 x1 x3 x4 ka0 I h
      · have h := h.2 c50
        refine j_iload_n G 2 3 dX10_tells_216 rfl rfl ?_
        refine j_iconst G (2 : Int32) dX10_tells_217 (by decide) ?_
        refine j_icmp_ne G 232 dX10_tells_218 (by decide) (fun c51 => ?_) (fun c51 => ?_)
        · have h := h.1 c51
          exact m_X10_tells_p232 G hW a0 x1 x3 x4 ka0 I h
        · have h := h.2 c51
          exact m_X10_tells_p221 G hW a0 x1 x3 x4 ka0 I h
def w_X10_tells_p184 (a0 : Nat) (x1 : Int32) (x2 : Int32) (x3 : Int32) (x4 : Int32) (t0 : Int64) (o1 : Nat) (I : MI)  (Q : MI → Prop) : Prop :=
(w_X10_word o1 t0 I (fun I16 =>
((¬ x3 = (1 : Int32) → w_X10_tells_p200 a0 x1 x3 x4 I16 Q) ∧
(x3 = (1 : Int32) → (w_X10_letter a0 (x2 / (16 : Int32)) I16 (fun I52 =>
w_X10_tells_p200 a0 x1 x3 x4 I52 Q))))))
set_option maxHeartbeats 4000000 in
set_option maxRecDepth 100000 in
theorem m_X10_tells_p184 {K : Kx} {l : Launch} {m : MethodId} {H0 : Heap} {Q : MI → Prop} {w : HW} {J : MJ} {B : MR} (G : Gd l rm_X10_tells K m RX10 cX10_tells 5 H0 none (va_Qv (S := MI) Q (fun u t => HP K (u, J, B) t.heap) (AA K)) w) (hW : WFK K) (a0 : Nat) (x1 : Int32) (x2 : Int32) (x3 : Int32) (x4 : Int32) (t0 : Int64) (o1 : Nat) (ka0 : (kG K a0).1 = 12) (ko1 : (kG K o1).1 = 12) (I : MI)   (h : w_X10_tells_p184 a0 x1 x2 x3 x4 t0 o1 I Q) : Jg K m 5 H0 w 184 [(0, .ref a0), (1, .int x1), (2, .int x2), (3, .int x3), (4, .int x4)] [.long t0, .ref o1] (I, J, B) := by
  unfold w_X10_tells_p184 at h
  refine j_cv (rn_V G hW (ci := 11) (n := 1) (As := [.long t0]) (rest := []) (c_X10_word K hW l o1 t0 ko1 I J B _ h) ko1 (by decide) rfl ml_X10_280 im_X10_word se_X10_word in_X10 co_X10_word rfl (by decide +kernel) rfl rfl (by decide) (by decide) rfl rfl (Nat.le_of_ble_eq_true rfl) dX10_tells_184) (fun I16 h => ?_)
  refine j_iload_n G 3 3 dX10_tells_187 rfl rfl ?_
  refine j_iconst G (1 : Int32) dX10_tells_188 (by decide) ?_
  refine j_icmp_ne G 200 dX10_tells_189 (by decide) (fun c17 => ?_) (fun c17 => ?_)
  · have h := h.1 c17
    exact Jg.sub [0, 1, 3, 4] rfl (m_X10_tells_p200 G hW a0 x1 x3 x4 ka0 I16 h)
  · have h := h.2 c17
    refine j_aload_n G 0 0 dX10_tells_192 rfl rfl ?_
    refine j_iload_n G 2 2 dX10_tells_193 rfl rfl ?_
    refine j_bipush G (16 : Int32) dX10_tells_194 (by decide) ?_
    refine j_idiv G (by decide) dX10_tells_196 ?_
    refine j_cv (rn_V G hW (ci := 11) (n := 1) (As := [.int (x2 / (16 : Int32))]) (rest := []) (c_X10_letter K hW l a0 (x2 / (16 : Int32)) ka0 I16 J B _ h) ka0 (by decide) rfl ml_X10_244 im_X10_letter se_X10_letter in_X10 co_X10_letter rfl (by decide +kernel) rfl rfl (by decide) (by decide) rfl rfl (Nat.le_of_ble_eq_true rfl) dX10_tells_197) (fun I52 h => ?_)
    exact Jg.sub [0, 1, 3, 4] rfl (m_X10_tells_p200 G hW a0 x1 x3 x4 ka0 I52 h)
def w_X10_tells_p21 (a0 : Nat) (x1 : Int32) (x2 : Int32) (x3 : Int32) (s0 : Int32) (I : MI)  (Q : MI → Prop) : Prop :=
((¬ x3 = (1 : Int32) → ((¬ x3 = (2 : Int32) → ((¬ x3 = (3 : Int32) → ((¬ x3 = (4 : Int32) → ((¬ x3 = (5 : Int32) → ((¬ x3 = (6 : Int32) → ((¬ x3 = (7 : Int32) → ((¬ x3 = (8 : Int32) → ((¬ x3 = (9 : Int32) → ((¬ x3 = (10 : Int32) → ((¬ x3 = (11 : Int32) → ((¬ x3 = (12 : Int32) → ((¬ x3 = (13 : Int32) → w_X10_tells_p184 a0 x1 x2 x3 s0 (6647396 : Int64) a0 I Q) ∧
(x3 = (13 : Int32) → w_X10_tells_p184 a0 x1 x2 x3 s0 (457236047717 : Int64) a0 I Q))) ∧
(x3 = (12 : Int32) → w_X10_tells_p184 a0 x1 x2 x3 s0 (6386539 : Int64) a0 I Q))) ∧
(x3 = (11 : Int32) → w_X10_tells_p184 a0 x1 x2 x3 s0 (1751475556 : Int64) a0 I Q))) ∧
(x3 = (10 : Int32) → w_X10_tells_p184 a0 x1 x2 x3 s0 (1952803948 : Int64) a0 I Q))) ∧
(x3 = (9 : Int32) → w_X10_tells_p184 a0 x1 x2 x3 s0 (1786080624 : Int64) a0 I Q))) ∧
(x3 = (8 : Int32) → w_X10_tells_p184 a0 x1 x2 x3 s0 (1734964837 : Int64) a0 I Q))) ∧
(x3 = (7 : Int32) → w_X10_tells_p184 a0 x1 x2 x3 s0 (482854658917 : Int64) a0 I Q))) ∧
(x3 = (6 : Int32) → w_X10_tells_p184 a0 x1 x2 x3 s0 (7370100 : Int64) a0 I Q))) ∧
(x3 = (5 : Int32) → w_X10_tells_p184 a0 x1 x2 x3 s0 (6776180 : Int64) a0 I Q))) ∧
(x3 = (4 : Int32) → w_X10_tells_p184 a0 x1 x2 x3 s0 (452908512613 : Int64) a0 I Q))) ∧
(x3 = (3 : Int32) → w_X10_tells_p184 a0 x1 x2 x3 s0 (439788790632 : Int64) a0 I Q))) ∧
(x3 = (2 : Int32) → (w_X10_opOf a0 (0 : Int32) x1 I (fun r53 =>
(w_X10_opWord r53 (fun r54 =>
w_X10_tells_p184 a0 x1 x2 x3 s0 r54 a0 I Q))))))) ∧
(x3 = (1 : Int32) → w_X10_tells_p184 a0 x1 x2 x3 s0 (1936027236 : Int64) a0 I Q))
set_option maxHeartbeats 4000000 in
set_option maxRecDepth 100000 in
theorem m_X10_tells_p21 {K : Kx} {l : Launch} {m : MethodId} {H0 : Heap} {Q : MI → Prop} {w : HW} {J : MJ} {B : MR} (G : Gd l rm_X10_tells K m RX10 cX10_tells 5 H0 none (va_Qv (S := MI) Q (fun u t => HP K (u, J, B) t.heap) (AA K)) w) (hW : WFK K) (a0 : Nat) (x1 : Int32) (x2 : Int32) (x3 : Int32) (s0 : Int32) (ka0 : (kG K a0).1 = 12)  (I : MI)   (h : w_X10_tells_p21 a0 x1 x2 x3 s0 I Q) : Jg K m 5 H0 w 21 [(0, .ref a0), (1, .int x1), (2, .int x2), (3, .int x3)] [.int s0] (I, J, B) := by
  unfold w_X10_tells_p21 at h
  refine j_istore G [(4, .int s0), (0, .ref a0), (1, .int x1), (2, .int x2), (3, .int x3)] dX10_tells_21 (by decide) rfl ?_
  refine j_aload_n G 1 0 dX10_tells_23 rfl rfl ?_
  refine j_iload_n G 4 3 dX10_tells_24 rfl rfl ?_
  refine j_iconst G (1 : Int32) dX10_tells_25 (by decide) ?_
  refine j_icmp_ne G 35 dX10_tells_26 (by decide) (fun c3 => ?_) (fun c3 => ?_)
  · have h := h.1 c3
    refine j_iload_n G 4 3 dX10_tells_35 rfl rfl ?_
    refine j_iconst G (2 : Int32) dX10_tells_36 (by decide) ?_
    refine j_icmp_ne G 52 dX10_tells_37 (by decide) (fun c4 => ?_) (fun c4 => ?_)
    · have h := h.1 c4
      refine j_iload_n G 4 3 dX10_tells_52 rfl rfl ?_
      refine j_iconst G (3 : Int32) dX10_tells_53 (by decide) ?_
      refine j_icmp_ne G 63 dX10_tells_54 (by decide) (fun c5 => ?_) (fun c5 => ?_)
      · have h := h.1 c5
        refine j_iload_n G 4 3 dX10_tells_63 rfl rfl ?_
        refine j_iconst G (4 : Int32) dX10_tells_64 (by decide) ?_
        refine j_icmp_ne G 74 dX10_tells_65 (by decide) (fun c6 => ?_) (fun c6 => ?_)
        · have h := h.1 c6
          refine j_iload_n G 4 3 dX10_tells_74 rfl rfl ?_
          refine j_iconst G (5 : Int32) dX10_tells_75 (by decide) ?_
          refine j_icmp_ne G 85 dX10_tells_76 (by decide) (fun c7 => ?_) (fun c7 => ?_)
          · have h := h.1 c7
            refine j_iload_n G 4 3 dX10_tells_85 rfl rfl ?_
            refine j_bipush G (6 : Int32) dX10_tells_86 (by decide) ?_
            refine j_icmp_ne G 97 dX10_tells_88 (by decide) (fun c8 => ?_) (fun c8 => ?_)
            · have h := h.1 c8
              refine j_iload_n G 4 3 dX10_tells_97 rfl rfl ?_
              refine j_bipush G (7 : Int32) dX10_tells_98 (by decide) ?_
              refine j_icmp_ne G 109 dX10_tells_100 (by decide) (fun c9 => ?_) (fun c9 => ?_)
              · have h := h.1 c9
                refine j_iload_n G 4 3 dX10_tells_109 rfl rfl ?_
                refine j_bipush G (8 : Int32) dX10_tells_110 (by decide) ?_
                refine j_icmp_ne G 121 dX10_tells_112 (by decide) (fun c10 => ?_) (fun c10 => ?_)
                · have h := h.1 c10
                  refine j_iload_n G 4 3 dX10_tells_121 rfl rfl ?_
                  refine j_bipush G (9 : Int32) dX10_tells_122 (by decide) ?_
                  refine j_icmp_ne G 133 dX10_tells_124 (by decide) (fun c11 => ?_) (fun c11 => ?_)
                  · have h := h.1 c11
                    refine j_iload_n G 4 3 dX10_tells_133 rfl rfl ?_
                    refine j_bipush G (10 : Int32) dX10_tells_134 (by decide) ?_
                    refine j_icmp_ne G 145 dX10_tells_136 (by decide) (fun c12 => ?_) (fun c12 => ?_)
                    · have h := h.1 c12
                      refine j_iload_n G 4 3 dX10_tells_145 rfl rfl ?_
                      refine j_bipush G (11 : Int32) dX10_tells_146 (by decide) ?_
                      refine j_icmp_ne G 157 dX10_tells_148 (by decide) (fun c13 => ?_) (fun c13 => ?_)
                      · have h := h.1 c13
                        refine j_iload_n G 4 3 dX10_tells_157 rfl rfl ?_
                        refine j_bipush G (12 : Int32) dX10_tells_158 (by decide) ?_
                        refine j_icmp_ne G 169 dX10_tells_160 (by decide) (fun c14 => ?_) (fun c14 => ?_)
                        · have h := h.1 c14
                          refine j_iload_n G 4 3 dX10_tells_169 rfl rfl ?_
                          refine j_bipush G (13 : Int32) dX10_tells_170 (by decide) ?_
                          refine j_icmp_ne G 181 dX10_tells_172 (by decide) (fun c15 => ?_) (fun c15 => ?_)
                          · have h := h.1 c15
                            refine j_ldc2 G (6647396 : Int64) cl_X10_278 dX10_tells_181 ?_
                            exact Jg.sub [1, 2, 3, 4, 0] rfl (m_X10_tells_p184 G hW a0 x1 x2 x3 s0 (6647396 : Int64) a0 ka0 ka0 I h)
                          · have h := h.2 c15
                            refine j_ldc2 G (457236047717 : Int64) cl_X10_276 dX10_tells_175 ?_
                            refine j_goto G 184 dX10_tells_178 (by decide) ?_
                            exact Jg.sub [1, 2, 3, 4, 0] rfl (m_X10_tells_p184 G hW a0 x1 x2 x3 s0 (457236047717 : Int64) a0 ka0 ka0 I h)
                        · have h := h.2 c14
                          refine j_ldc2 G (6386539 : Int64) cl_X10_274 dX10_tells_163 ?_
                          refine j_goto G 184 dX10_tells_166 (by decide) ?_
                          exact Jg.sub [1, 2, 3, 4, 0] rfl (m_X10_tells_p184 G hW a0 x1 x2 x3 s0 (6386539 : Int64) a0 ka0 ka0 I h)
                      · have h := h.2 c13
                        refine j_ldc2 G (1751475556 : Int64) cl_X10_272 dX10_tells_151 ?_
                        refine j_goto G 184 dX10_tells_154 (by decide) ?_
                        exact Jg.sub [1, 2, 3, 4, 0] rfl (m_X10_tells_p184 G hW a0 x1 x2 x3 s0 (1751475556 : Int64) a0 ka0 ka0 I h)
                    · have h := h.2 c12
                      refine j_ldc2 G (1952803948 : Int64) cl_X10_270 dX10_tells_139 ?_
                      refine j_goto G 184 dX10_tells_142 (by decide) ?_
                      exact Jg.sub [1, 2, 3, 4, 0] rfl (m_X10_tells_p184 G hW a0 x1 x2 x3 s0 (1952803948 : Int64) a0 ka0 ka0 I h)
                  · have h := h.2 c11
                    refine j_ldc2 G (1786080624 : Int64) cl_X10_268 dX10_tells_127 ?_
                    refine j_goto G 184 dX10_tells_130 (by decide) ?_
                    exact Jg.sub [1, 2, 3, 4, 0] rfl (m_X10_tells_p184 G hW a0 x1 x2 x3 s0 (1786080624 : Int64) a0 ka0 ka0 I h)
                · have h := h.2 c10
                  refine j_ldc2 G (1734964837 : Int64) cl_X10_266 dX10_tells_115 ?_
                  refine j_goto G 184 dX10_tells_118 (by decide) ?_
                  exact Jg.sub [1, 2, 3, 4, 0] rfl (m_X10_tells_p184 G hW a0 x1 x2 x3 s0 (1734964837 : Int64) a0 ka0 ka0 I h)
              · have h := h.2 c9
                refine j_ldc2 G (482854658917 : Int64) cl_X10_264 dX10_tells_103 ?_
                refine j_goto G 184 dX10_tells_106 (by decide) ?_
                exact Jg.sub [1, 2, 3, 4, 0] rfl (m_X10_tells_p184 G hW a0 x1 x2 x3 s0 (482854658917 : Int64) a0 ka0 ka0 I h)
            · have h := h.2 c8
              refine j_ldc2 G (7370100 : Int64) cl_X10_262 dX10_tells_91 ?_
              refine j_goto G 184 dX10_tells_94 (by decide) ?_
              exact Jg.sub [1, 2, 3, 4, 0] rfl (m_X10_tells_p184 G hW a0 x1 x2 x3 s0 (7370100 : Int64) a0 ka0 ka0 I h)
          · have h := h.2 c7
            refine j_ldc2 G (6776180 : Int64) cl_X10_260 dX10_tells_79 ?_
            refine j_goto G 184 dX10_tells_82 (by decide) ?_
            exact Jg.sub [1, 2, 3, 4, 0] rfl (m_X10_tells_p184 G hW a0 x1 x2 x3 s0 (6776180 : Int64) a0 ka0 ka0 I h)
        · have h := h.2 c6
          refine j_ldc2 G (452908512613 : Int64) cl_X10_258 dX10_tells_68 ?_
          refine j_goto G 184 dX10_tells_71 (by decide) ?_
          exact Jg.sub [1, 2, 3, 4, 0] rfl (m_X10_tells_p184 G hW a0 x1 x2 x3 s0 (452908512613 : Int64) a0 ka0 ka0 I h)
      · have h := h.2 c5
        refine j_ldc2 G (439788790632 : Int64) cl_X10_256 dX10_tells_57 ?_
        refine j_goto G 184 dX10_tells_60 (by decide) ?_
        exact Jg.sub [1, 2, 3, 4, 0] rfl (m_X10_tells_p184 G hW a0 x1 x2 x3 s0 (439788790632 : Int64) a0 ka0 ka0 I h)
    · have h := h.2 c4
      refine j_aload_n G 1 0 dX10_tells_40 rfl rfl ?_
      refine j_iconst G (0 : Int32) dX10_tells_41 (by decide) ?_
      refine j_iload_n G 2 1 dX10_tells_42 rfl rfl ?_
      refine j_ci (rn_V G hW (ci := 11) (n := 2) (As := [.int (0 : Int32), .int x1]) (rest := [.ref a0]) (c_X10_opOf K hW l a0 (0 : Int32) x1 ka0 I J B _ h) ka0 (by decide) rfl ml_X10_58 im_X10_opOf se_X10_opOf in_X10 co_X10_opOf rfl (by decide +kernel) rfl rfl (by decide) (by decide) rfl rfl (Nat.le_of_ble_eq_true rfl) dX10_tells_43) (fun r53 _ h => ?_)
      refine j_cl (rn_S G (n := 1) (As := [.int r53]) (rest := [.ref a0]) (c_X10_opWord K hW l r53 I J B _ h) ml_X10_252 st_X10_opWord in_X10 co_X10_opWord (by decide +kernel) rfl rfl (by decide) (by decide) rfl rfl (Nat.le_of_ble_eq_true rfl) dX10_tells_46) (fun r54 _ h => ?_)
      refine j_goto G 184 dX10_tells_49 (by decide) ?_
      exact Jg.sub [1, 2, 3, 4, 0] rfl (m_X10_tells_p184 G hW a0 x1 x2 x3 s0 r54 a0 ka0 ka0 I h)
  · have h := h.2 c3
    refine j_ldc2 G (1936027236 : Int64) cl_X10_250 dX10_tells_29 ?_
    refine j_goto G 184 dX10_tells_32 (by decide) ?_
    exact Jg.sub [1, 2, 3, 4, 0] rfl (m_X10_tells_p184 G hW a0 x1 x2 x3 s0 (1936027236 : Int64) a0 ka0 ka0 I h)
def w_X10_tells (a0 : Nat) (x1 : Int32) (x2 : Int32) (I : MI) (Q : MI → Prop) : Prop :=
(∀ x3_1, x3_1 = x2 - x2 / (16 : Int32) * (16 : Int32) →
((x3_1 = (3 : Int32) → w_X10_tells_p21 a0 x1 x2 x3_1 (1 : Int32) I Q) ∧
(¬ x3_1 = (3 : Int32) → ((¬ x3_1 = (6 : Int32) → w_X10_tells_p21 a0 x1 x2 x3_1 (0 : Int32) I Q) ∧
(x3_1 = (6 : Int32) → w_X10_tells_p21 a0 x1 x2 x3_1 (1 : Int32) I Q)))))
set_option maxHeartbeats 4000000 in
set_option maxRecDepth 100000 in
theorem c_X10_tells (K : Kx) (hW : WFK K) (l : Launch) (a0 : Nat) (x1 : Int32) (x2 : Int32) (k0 : (kG K a0).1 = 12) (I : MI) (J : MJ) (B : MR) (Q : MI → Prop) (h : w_X10_tells a0 x1 x2 I Q) : Con K l yX10_tells (wsT yX10_tells cX10_tells 5 none) rm_X10_tells [.ref a0, .int x1, .int x2] (I, J, B) (va_Qv (S := MI) Q (fun u t => HP K (u, J, B) t.heap) (AA K)) := by
  refine Con.ofJ RX10 rfl (by decide) (Nat.le_of_ble_eq_true rfl) (fun m H0 w G => ?_)
  unfold w_X10_tells at h
  show Jg K m 5 H0 w 0 [(0, .ref a0), (1, .int x1), (2, .int x2)] [] (I, J, B)
  refine j_iload_n G 2 2 dX10_tells_0 rfl rfl ?_
  refine j_bipush G (16 : Int32) dX10_tells_1 (by decide) ?_
  refine j_irem G (by decide) dX10_tells_3 ?_
  refine j_nm (fun x3_1 ex3_1 => ?_)
  have h := h x3_1 ex3_1
  refine j_istore_n G 3 [(3, .int x3_1), (0, .ref a0), (1, .int x1), (2, .int x2)] dX10_tells_4 rfl (by decide) rfl ?_
  refine j_iload_n G 0 3 dX10_tells_5 rfl rfl ?_
  refine j_iconst G (3 : Int32) dX10_tells_6 (by decide) ?_
  refine j_icmp_eq G 16 dX10_tells_7 (by decide) (fun c2 => ?_) (fun c2 => ?_)
  · have h := h.1 c2
    refine j_iconst G (1 : Int32) dX10_tells_16 (by decide) ?_
    refine j_goto G 21 dX10_tells_17 (by decide) ?_
    exact Jg.sub [1, 2, 3, 0] rfl (m_X10_tells_p21 G hW a0 x1 x2 x3_1 (1 : Int32) k0 I h)
  · have h := h.2 c2
    refine j_iload_n G 0 3 dX10_tells_10 rfl rfl ?_
    refine j_bipush G (6 : Int32) dX10_tells_11 (by decide) ?_
    refine j_icmp_ne G 20 dX10_tells_13 (by decide) (fun c55 => ?_) (fun c55 => ?_)
    · have h := h.1 c55
      refine j_iconst G (0 : Int32) dX10_tells_20 (by decide) ?_
      exact Jg.sub [1, 2, 3, 0] rfl (m_X10_tells_p21 G hW a0 x1 x2 x3_1 (0 : Int32) k0 I h)
    · have h := h.2 c55
      refine j_iconst G (1 : Int32) dX10_tells_16 (by decide) ?_
      refine j_goto G 21 dX10_tells_17 (by decide) ?_
      exact Jg.sub [1, 2, 3, 0] rfl (m_X10_tells_p21 G hW a0 x1 x2 x3_1 (1 : Int32) k0 I h)
abbrev rm_X10_text : Room := { frames := 7, cells := 0, slots := 0, locals := 166 }
def w_X10_text (a0 : Nat) (x1 : Int32) (x2 : Int32) (x3 : Int32) (x4 : Int32) (I : MI) (Q : Int32 → MI → Prop) : Prop :=
(w_X10_isDeed a0 x1 x2 x3 I (fun r1 =>
((¬ r1 = 0 → (∀ I3, I3 = ui I a0 9 (0 : Int32) →
(w_X10_deed a0 (0 : Int32) x1 x2 x3 I3 (fun r4 =>
(w_X10_tells a0 x2 r4 I3 (fun I5 =>
(w_X10_isIn x4 (0 : Int32) ((I5 a0 9) - (1 : Int32)) (fun r6 =>
((r6 = 0 → Q (-1 : Int32) I5) ∧
(¬ r6 = 0 → (vp_in x4 24 ∧
Q (I5 (a0 + 4) (ix x4)) I5))))))))))) ∧
(r1 = 0 → Q (-1 : Int32) I))))
set_option maxHeartbeats 4000000 in
set_option maxRecDepth 100000 in
theorem c_X10_text (K : Kx) (hW : WFK K) (l : Launch) (a0 : Nat) (x1 : Int32) (x2 : Int32) (x3 : Int32) (x4 : Int32) (k0 : (kG K a0).1 = 12) (I : MI) (J : MJ) (B : MR) (Q : Int32 → MI → Prop) (h : w_X10_text a0 x1 x2 x3 x4 I Q) : Con K l yX10_text (wsT yX10_text cX10_text 5 (some .int)) rm_X10_text [.ref a0, .int x1, .int x2, .int x3, .int x4] (I, J, B) (va_Qi (S := MI) Q (fun u t => HP K (u, J, B) t.heap) (AA K)) := by
  refine Con.ofJ RX10 rfl (by decide) (Nat.le_of_ble_eq_true rfl) (fun m H0 w G => ?_)
  unfold w_X10_text at h
  show Jg K m 5 H0 w 0 [(0, .ref a0), (1, .int x1), (2, .int x2), (3, .int x3), (4, .int x4)] [] (I, J, B)
  refine j_aload_n G 0 0 dX10_text_0 rfl rfl ?_
  refine j_iload_n G 1 1 dX10_text_1 rfl rfl ?_
  refine j_iload_n G 2 2 dX10_text_2 rfl rfl ?_
  refine j_iload_n G 3 3 dX10_text_3 rfl rfl ?_
  refine j_ci (rn_V G hW (ci := 11) (n := 3) (As := [.int x1, .int x2, .int x3]) (rest := []) (c_X10_isDeed K hW l a0 x1 x2 x3 k0 I J B _ h) k0 (by decide) rfl ml_X10_233 im_X10_isDeed se_X10_isDeed in_X10 co_X10_isDeed rfl (by decide +kernel) rfl rfl (by decide) (by decide) rfl rfl (Nat.le_of_ble_eq_true rfl) dX10_text_4) (fun r1 _ h => ?_)
  refine j_if_ne G 12 dX10_text_7 (by decide) (fun c2 => ?_) (fun c2 => ?_)
  · have h := h.1 c2
    refine j_aload_n G 0 0 dX10_text_12 rfl rfl ?_
    refine j_iconst G (0 : Int32) dX10_text_13 (by decide) ?_
    refine j_put G hW 11 9 tyX10 (tyX10 9) tyX10_ok nmX10 k0 (by decide) rfl (by decide) rfl lay_X10 fl_X10_236 rfl rfl (tyX10_ok 9 (by decide)) rfl rfl dX10_text_14 ?_
    refine j_mI (fun I3 eI3 => ?_)
    have h := h I3 eI3
    refine j_aload_n G 0 0 dX10_text_17 rfl rfl ?_
    refine j_iload_n G 2 2 dX10_text_18 rfl rfl ?_
    refine j_aload_n G 0 0 dX10_text_19 rfl rfl ?_
    refine j_iconst G (0 : Int32) dX10_text_20 (by decide) ?_
    refine j_iload_n G 1 1 dX10_text_21 rfl rfl ?_
    refine j_iload_n G 2 2 dX10_text_22 rfl rfl ?_
    refine j_iload_n G 3 3 dX10_text_23 rfl rfl ?_
    refine j_ci (rn_V G hW (ci := 11) (n := 4) (As := [.int (0 : Int32), .int x1, .int x2, .int x3]) (rest := [.int x2, .ref a0]) (c_X10_deed K hW l a0 (0 : Int32) x1 x2 x3 k0 I3 J B _ h) k0 (by decide) rfl ml_X10_80 im_X10_deed se_X10_deed in_X10 co_X10_deed rfl (by decide +kernel) rfl rfl (by decide) (by decide) rfl rfl (Nat.le_of_ble_eq_true rfl) dX10_text_24) (fun r4 _ h => ?_)
    refine j_cv (rn_V G hW (ci := 11) (n := 2) (As := [.int x2, .int r4]) (rest := []) (c_X10_tells K hW l a0 x2 r4 k0 I3 J B _ h) k0 (by decide) rfl ml_X10_295 im_X10_tells se_X10_tells in_X10 co_X10_tells rfl (by decide +kernel) rfl rfl (by decide) (by decide) rfl rfl (Nat.le_of_ble_eq_true rfl) dX10_text_27) (fun I5 h => ?_)
    refine j_iload G 4 dX10_text_30 rfl ?_
    refine j_iconst G (0 : Int32) dX10_text_32 (by decide) ?_
    refine j_aload_n G 0 0 dX10_text_33 rfl rfl ?_
    refine j_get G hW 11 9 0 (.int (I5 a0 9)) k0 (by decide) rfl (by decide) rfl lay_X10 fl_X10_236 rfl rfl dX10_text_34 ?_
    refine j_iconst G (1 : Int32) dX10_text_37 (by decide) ?_
    refine j_isub G dX10_text_38 ?_
    refine j_ci (rn_S G (n := 3) (As := [.int x4, .int (0 : Int32), .int ((I5 a0 9) - (1 : Int32))]) (rest := []) (c_X10_isIn K hW l x4 (0 : Int32) ((I5 a0 9) - (1 : Int32)) I5 J B _ h) ml_X10_190 st_X10_isIn in_X10 co_X10_isIn (by decide +kernel) rfl rfl (by decide) (by decide) rfl rfl (Nat.le_of_ble_eq_true rfl) dX10_text_39) (fun r6 _ h => ?_)
    refine j_if_eq G 55 dX10_text_42 (by decide) (fun c7 => ?_) (fun c7 => ?_)
    · have h := h.1 c7
      refine j_iconst G (-1 : Int32) dX10_text_55 (by decide) ?_
      exact j_reti G I5 rfl dX10_text_56 h rfl
    · have h := h.2 c7
      refine j_aload_n G 0 0 dX10_text_45 rfl rfl ?_
      have kk8 : kG K (a0 + 4) = (20, 24) := wk_12_4 hW k0
      refine j_get G hW 11 8 7 (.ref (a0 + 4)) k0 (by decide) rfl (by decide) rfl lay_X10 fl_X10_24 rfl rfl dX10_text_46 ?_
      refine j_iload G 4 dX10_text_49 rfl ?_
      obtain ⟨b9, h⟩ := h
      refine j_iald G hW kk8 b9 dX10_text_51 ?_
      refine j_goto G 56 dX10_text_52 (by decide) ?_
      exact j_reti G I5 rfl dX10_text_56 h rfl
  · have h := h.2 c2
    refine j_iconst G (-1 : Int32) dX10_text_10 (by decide) ?_
    exact j_reti G I rfl dX10_text_11 h rfl
abbrev rm_X10_byteAt : Room := { frames := 0, cells := 0, slots := 0, locals := 0 }
def w_X10_byteAt (a0 : Nat) (x1 : Int32) (I : MI) (Q : Int32 →  Prop) : Prop :=
(((I a0 10) ≤ x1 → Q (-1 : Int32)) ∧
(¬ (I a0 10) ≤ x1 → (vp_in x1 600 ∧
Q (I (a0 + 2) (ix x1)))))
set_option maxHeartbeats 4000000 in
set_option maxRecDepth 100000 in
theorem c_X10_byteAt (K : Kx) (hW : WFK K) (l : Launch) (a0 : Nat) (x1 : Int32) (k0 : (kG K a0).1 = 12) (I : MI) (J : MJ) (B : MR) (Q : Int32 →  Prop) (h : w_X10_byteAt a0 x1 I Q) : Con K l yX10_byteAt (wsT yX10_byteAt cX10_byteAt 2 (some .int)) rm_X10_byteAt [.ref a0, .int x1] (I, J, B) (va_Qi (S := Unit) (fun r _ => Q r) (fun u t => HP K (I, J, B) t.heap) (AA K)) := by
  refine Con.ofJ RX10 rfl (by decide) (Nat.le_of_ble_eq_true rfl) (fun m H0 w G => ?_)
  unfold w_X10_byteAt at h
  show Jg K m 2 H0 w 0 [(0, .ref a0), (1, .int x1)] [] (I, J, B)
  refine j_iload_n G 1 1 dX10_byteAt_0 rfl rfl ?_
  refine j_aload_n G 0 0 dX10_byteAt_1 rfl rfl ?_
  refine j_get G hW 11 10 0 (.int (I a0 10)) k0 (by decide) rfl (by decide) rfl lay_X10 fl_X10_298 rfl rfl dX10_byteAt_2 ?_
  refine j_icmp_ge G 17 dX10_byteAt_5 (by decide) (fun c1 => ?_) (fun c1 => ?_)
  · have h := h.1 c1
    refine j_iconst G (-1 : Int32) dX10_byteAt_17 (by decide) ?_
    exact j_reti G () rfl dX10_byteAt_18 h rfl
  · have h := h.2 c1
    refine j_aload_n G 0 0 dX10_byteAt_8 rfl rfl ?_
    have kk2 : kG K (a0 + 2) = (20, 600) := wk_12_2 hW k0
    refine j_get G hW 11 1 5 (.ref (a0 + 2)) k0 (by decide) rfl (by decide) rfl lay_X10 fl_X10_13 rfl rfl dX10_byteAt_9 ?_
    refine j_iload_n G 1 1 dX10_byteAt_12 rfl rfl ?_
    obtain ⟨b3, h⟩ := h
    refine j_iald G hW kk2 b3 dX10_byteAt_13 ?_
    refine j_goto G 18 dX10_byteAt_14 (by decide) ?_
    exact j_reti G () rfl dX10_byteAt_18 h rfl
abbrev rm_X10_isLetter : Room := { frames := 0, cells := 0, slots := 0, locals := 0 }
def w_X10_isLetter (x0 : Int32)  (Q : Int32 →  Prop) : Prop :=
((x0 < (97 : Int32) → Q (0 : Int32)) ∧
(¬ x0 < (97 : Int32) → (((122 : Int32) < x0 → Q (0 : Int32)) ∧
(¬ (122 : Int32) < x0 → Q (1 : Int32)))))
set_option maxHeartbeats 4000000 in
set_option maxRecDepth 100000 in
theorem c_X10_isLetter (K : Kx) (hW : WFK K) (l : Launch) (x0 : Int32)  (I : MI) (J : MJ) (B : MR) (Q : Int32 →  Prop) (h : w_X10_isLetter x0 Q) : Con K l yX10_isLetter (wsT yX10_isLetter cX10_isLetter 1 (some .boolean)) rm_X10_isLetter [.int x0] (I, J, B) (va_Qi (S := Unit) (fun r _ => Q r) (fun u t => HP K (I, J, B) t.heap) (AA K)) := by
  refine Con.ofJ RX10 rfl (by decide) (Nat.le_of_ble_eq_true rfl) (fun m H0 w G => ?_)
  unfold w_X10_isLetter at h
  show Jg K m 1 H0 w 0 [(0, .int x0)] [] (I, J, B)
  refine j_iload_n G 0 0 dX10_isLetter_0 rfl rfl ?_
  refine j_bipush G (97 : Int32) dX10_isLetter_1 (by decide) ?_
  refine j_icmp_lt G 16 dX10_isLetter_3 (by decide) (fun c1 => ?_) (fun c1 => ?_)
  · have h := h.1 c1
    refine j_iconst G (0 : Int32) dX10_isLetter_16 (by decide) ?_
    exact j_reti G () (by decide) dX10_isLetter_17 h rfl
  · have h := h.2 c1
    refine j_iload_n G 0 0 dX10_isLetter_6 rfl rfl ?_
    refine j_bipush G (122 : Int32) dX10_isLetter_7 (by decide) ?_
    refine j_icmp_gt G 16 dX10_isLetter_9 (by decide) (fun c2 => ?_) (fun c2 => ?_)
    · have h := h.1 c2
      refine j_iconst G (0 : Int32) dX10_isLetter_16 (by decide) ?_
      exact j_reti G () (by decide) dX10_isLetter_17 h rfl
    · have h := h.2 c2
      refine j_iconst G (1 : Int32) dX10_isLetter_12 (by decide) ?_
      refine j_goto G 17 dX10_isLetter_13 (by decide) ?_
      exact j_reti G () (by decide) dX10_isLetter_17 h rfl
abbrev rm_X10_isDigit : Room := { frames := 0, cells := 0, slots := 0, locals := 0 }
def w_X10_isDigit (x0 : Int32)  (Q : Int32 →  Prop) : Prop :=
((x0 < (48 : Int32) → Q (0 : Int32)) ∧
(¬ x0 < (48 : Int32) → (((57 : Int32) < x0 → Q (0 : Int32)) ∧
(¬ (57 : Int32) < x0 → Q (1 : Int32)))))
set_option maxHeartbeats 4000000 in
set_option maxRecDepth 100000 in
theorem c_X10_isDigit (K : Kx) (hW : WFK K) (l : Launch) (x0 : Int32)  (I : MI) (J : MJ) (B : MR) (Q : Int32 →  Prop) (h : w_X10_isDigit x0 Q) : Con K l yX10_isDigit (wsT yX10_isDigit cX10_isDigit 1 (some .boolean)) rm_X10_isDigit [.int x0] (I, J, B) (va_Qi (S := Unit) (fun r _ => Q r) (fun u t => HP K (I, J, B) t.heap) (AA K)) := by
  refine Con.ofJ RX10 rfl (by decide) (Nat.le_of_ble_eq_true rfl) (fun m H0 w G => ?_)
  unfold w_X10_isDigit at h
  show Jg K m 1 H0 w 0 [(0, .int x0)] [] (I, J, B)
  refine j_iload_n G 0 0 dX10_isDigit_0 rfl rfl ?_
  refine j_bipush G (48 : Int32) dX10_isDigit_1 (by decide) ?_
  refine j_icmp_lt G 16 dX10_isDigit_3 (by decide) (fun c1 => ?_) (fun c1 => ?_)
  · have h := h.1 c1
    refine j_iconst G (0 : Int32) dX10_isDigit_16 (by decide) ?_
    exact j_reti G () (by decide) dX10_isDigit_17 h rfl
  · have h := h.2 c1
    refine j_iload_n G 0 0 dX10_isDigit_6 rfl rfl ?_
    refine j_bipush G (57 : Int32) dX10_isDigit_7 (by decide) ?_
    refine j_icmp_gt G 16 dX10_isDigit_9 (by decide) (fun c2 => ?_) (fun c2 => ?_)
    · have h := h.1 c2
      refine j_iconst G (0 : Int32) dX10_isDigit_16 (by decide) ?_
      exact j_reti G () (by decide) dX10_isDigit_17 h rfl
    · have h := h.2 c2
      refine j_iconst G (1 : Int32) dX10_isDigit_12 (by decide) ?_
      refine j_goto G 17 dX10_isDigit_13 (by decide) ?_
      exact j_reti G () (by decide) dX10_isDigit_17 h rfl
abbrev rm_X10_takesToken : Room := { frames := 1, cells := 0, slots := 0, locals := 21 }
def w_X10_takesToken_l0 (a0 : Nat) (J : MJ) (ke39 : MI → Prop) (Q : MI → MJ → Prop) (rec : MI → Prop) (I : MI) : Prop :=
(w_X10_byteAt a0 (I a0 11) I (fun r1 =>
((r1 = (32 : Int32) → (∀ I3, I3 = ui I a0 11 ((I a0 11) + (1 : Int32)) →
rec I3)) ∧
(¬ r1 = (32 : Int32) → (w_X10_byteAt a0 (I a0 11) I (fun r4 =>
((¬ r4 = (10 : Int32) → ke39 I) ∧
(r4 = (10 : Int32) → (∀ I6, I6 = ui I a0 11 ((I a0 11) + (1 : Int32)) →
rec I6)))))))))
set_option maxHeartbeats 4000000 in
set_option maxRecDepth 100000 in
theorem m_X10_takesToken_l0 {K : Kx} {l : Launch} {m : MethodId} {H0 : Heap} {Q : MI → MJ → Prop} {w : HW} {B : MR} (G : Gd l rm_X10_takesToken K m RX10 cX10_takesToken 2 H0 none (va_Qv (S := (MI × MJ)) (fun u => Q u.1 u.2) (fun u t => HP K (u.1, u.2, B) t.heap) (AA K)) w) (hW : WFK K) (a0 : Nat) (ka0 : (kG K a0).1 = 12) (I : MI) (J : MJ) (ke39 : MI → Prop) (hke39 : ∀ (I : MI), ke39 I → Jg K m 2 H0 w 39 [(0, .ref a0)] [] (I, J, B)) (h : Lp1 (w_X10_takesToken_l0 a0 J ke39 Q) I) : Jg K m 2 H0 w 0 [(0, .ref a0)] [] (I, J, B) := by
  obtain ⟨n, h⟩ := h
  refine lpN1_ind (P := (fun (I : MI) => Jg K m 2 H0 w 0 [(0, .ref a0)] [] (I, J, B))) (fun rec hrec I h => ?_) n I h
  unfold w_X10_takesToken_l0 at h
  refine j_aload_n G 0 0 dX10_takesToken_0 rfl rfl ?_
  refine j_aload_n G 0 0 dX10_takesToken_1 rfl rfl ?_
  refine j_get G hW 11 11 0 (.int (I a0 11)) ka0 (by decide) rfl (by decide) rfl lay_X10 fl_X10_301 rfl rfl dX10_takesToken_2 ?_
  refine j_ci (rn_V G hW (ci := 11) (n := 1) (As := [.int (I a0 11)]) (rest := []) (c_X10_byteAt K hW l a0 (I a0 11) ka0 I J B _ h) ka0 (by decide) rfl ml_X10_304 im_X10_byteAt se_X10_byteAt in_X10 co_X10_byteAt rfl (by decide +kernel) rfl rfl (by decide) (by decide) rfl rfl (Nat.le_of_ble_eq_true rfl) dX10_takesToken_5) (fun r1 _ h => ?_)
  refine j_bipush G (32 : Int32) dX10_takesToken_8 (by decide) ?_
  refine j_icmp_eq G 26 dX10_takesToken_10 (by decide) (fun c2 => ?_) (fun c2 => ?_)
  · have h := h.1 c2
    refine j_aload_n G 0 0 dX10_takesToken_26 rfl rfl ?_
    refine j_dup G rfl dX10_takesToken_27 ?_
    refine j_get G hW 11 11 0 (.int (I a0 11)) ka0 (by decide) rfl (by decide) rfl lay_X10 fl_X10_301 rfl rfl dX10_takesToken_28 ?_
    refine j_iconst G (1 : Int32) dX10_takesToken_31 (by decide) ?_
    refine j_iadd G dX10_takesToken_32 ?_
    refine j_put G hW 11 11 tyX10 (tyX10 11) tyX10_ok nmX10 ka0 (by decide) rfl (by decide) rfl lay_X10 fl_X10_301 rfl rfl (tyX10_ok 11 (by decide)) rfl rfl dX10_takesToken_33 ?_
    refine j_mI (fun I3 eI3 => ?_)
    have h := h I3 eI3
    refine j_goto G 0 dX10_takesToken_36 (by decide) ?_
    exact hrec I3 h
  · have h := h.2 c2
    refine j_aload_n G 0 0 dX10_takesToken_13 rfl rfl ?_
    refine j_aload_n G 0 0 dX10_takesToken_14 rfl rfl ?_
    refine j_get G hW 11 11 0 (.int (I a0 11)) ka0 (by decide) rfl (by decide) rfl lay_X10 fl_X10_301 rfl rfl dX10_takesToken_15 ?_
    refine j_ci (rn_V G hW (ci := 11) (n := 1) (As := [.int (I a0 11)]) (rest := []) (c_X10_byteAt K hW l a0 (I a0 11) ka0 I J B _ h) ka0 (by decide) rfl ml_X10_304 im_X10_byteAt se_X10_byteAt in_X10 co_X10_byteAt rfl (by decide +kernel) rfl rfl (by decide) (by decide) rfl rfl (Nat.le_of_ble_eq_true rfl) dX10_takesToken_18) (fun r4 _ h => ?_)
    refine j_bipush G (10 : Int32) dX10_takesToken_21 (by decide) ?_
    refine j_icmp_ne G 39 dX10_takesToken_23 (by decide) (fun c5 => ?_) (fun c5 => ?_)
    · have h := h.1 c5
      exact hke39 I h
    · have h := h.2 c5
      refine j_aload_n G 0 0 dX10_takesToken_26 rfl rfl ?_
      refine j_dup G rfl dX10_takesToken_27 ?_
      refine j_get G hW 11 11 0 (.int (I a0 11)) ka0 (by decide) rfl (by decide) rfl lay_X10 fl_X10_301 rfl rfl dX10_takesToken_28 ?_
      refine j_iconst G (1 : Int32) dX10_takesToken_31 (by decide) ?_
      refine j_iadd G dX10_takesToken_32 ?_
      refine j_put G hW 11 11 tyX10 (tyX10 11) tyX10_ok nmX10 ka0 (by decide) rfl (by decide) rfl lay_X10 fl_X10_301 rfl rfl (tyX10_ok 11 (by decide)) rfl rfl dX10_takesToken_33 ?_
      refine j_mI (fun I6 eI6 => ?_)
      have h := h I6 eI6
      refine j_goto G 0 dX10_takesToken_36 (by decide) ?_
      exact hrec I6 h
def w_X10_takesToken_p327  (o0 : Nat) (I : MI) (J : MJ)  (Q : MI → MJ → Prop) : Prop :=
(∀ I19, I19 = ui I o0 12 (3 : Int32) →
Q I19 J)
set_option maxHeartbeats 4000000 in
set_option maxRecDepth 100000 in
theorem m_X10_takesToken_p327 {K : Kx} {l : Launch} {m : MethodId} {H0 : Heap} {Q : MI → MJ → Prop} {w : HW} {B : MR} (G : Gd l rm_X10_takesToken K m RX10 cX10_takesToken 2 H0 none (va_Qv (S := (MI × MJ)) (fun u => Q u.1 u.2) (fun u t => HP K (u.1, u.2, B) t.heap) (AA K)) w) (hW : WFK K)  (o0 : Nat)  (ko0 : (kG K o0).1 = 12) (I : MI) (J : MJ)   (h : w_X10_takesToken_p327 o0 I J Q) : Jg K m 2 H0 w 327 [] [.ref o0] (I, J, B) := by
  unfold w_X10_takesToken_p327 at h
  refine j_iconst G (3 : Int32) dX10_takesToken_327 (by decide) ?_
  refine j_goto G 332 dX10_takesToken_328 (by decide) ?_
  refine j_put G hW 11 12 tyX10 (tyX10 12) tyX10_ok nmX10 ko0 (by decide) rfl (by decide) rfl lay_X10 fl_X10_314 rfl rfl (tyX10_ok 12 (by decide)) rfl rfl dX10_takesToken_332 ?_
  refine j_mI (fun I19 eI19 => ?_)
  have h := h I19 eI19
  exact j_retv G (I19, J) dX10_takesToken_335 h rfl
def w_X10_takesToken_l182 (a0 : Nat)  (ke255 : MI → MJ → Prop) (Q : MI → MJ → Prop) (rec : MI → MJ → Prop) (I : MI) (J : MJ) : Prop :=
(w_X10_byteAt a0 (I a0 11) I (fun r25 =>
(w_X10_isDigit r25 (fun r26 =>
((r26 = 0 → ke255 I J) ∧
(¬ r26 = 0 → (((3 : Int32) ≤ ((I a0 11) - (I a0 13)) → (∀ J29, J29 = uj J a0 17 (J a0 17) →
(∀ I30, I30 = ui I a0 11 ((I a0 11) + (1 : Int32)) →
rec I30 J29))) ∧
(¬ (3 : Int32) ≤ ((I a0 11) - (I a0 13)) → (w_X10_byteAt a0 (I a0 11) I (fun r31 =>
(∀ J32, J32 = uj J a0 17 ((((10 : Int64) * (J a0 17)) + (Int32.toInt64 r31)) - (48 : Int64)) →
(∀ I33, I33 = ui I a0 11 ((I a0 11) + (1 : Int32)) →
rec I33 J32))))))))))))
set_option maxHeartbeats 4000000 in
set_option maxRecDepth 100000 in
theorem m_X10_takesToken_l182 {K : Kx} {l : Launch} {m : MethodId} {H0 : Heap} {Q : MI → MJ → Prop} {w : HW} {B : MR} (G : Gd l rm_X10_takesToken K m RX10 cX10_takesToken 2 H0 none (va_Qv (S := (MI × MJ)) (fun u => Q u.1 u.2) (fun u t => HP K (u.1, u.2, B) t.heap) (AA K)) w) (hW : WFK K) (a0 : Nat) (ka0 : (kG K a0).1 = 12) (I : MI) (J : MJ) (ke255 : MI → MJ → Prop) (hke255 : ∀ (I : MI) (J : MJ), ke255 I J → Jg K m 2 H0 w 255 [(0, .ref a0)] [] (I, J, B)) (h : Lp2 (w_X10_takesToken_l182 a0 ke255 Q) I J) : Jg K m 2 H0 w 182 [(0, .ref a0)] [] (I, J, B) := by
  obtain ⟨n, h⟩ := h
  refine lpN2_ind (P := (fun (I : MI) (J : MJ) => Jg K m 2 H0 w 182 [(0, .ref a0)] [] (I, J, B))) (fun rec hrec I J h => ?_) n I J h
  unfold w_X10_takesToken_l182 at h
  refine j_aload_n G 0 0 dX10_takesToken_182 rfl rfl ?_
  refine j_aload_n G 0 0 dX10_takesToken_183 rfl rfl ?_
  refine j_get G hW 11 11 0 (.int (I a0 11)) ka0 (by decide) rfl (by decide) rfl lay_X10 fl_X10_301 rfl rfl dX10_takesToken_184 ?_
  refine j_ci (rn_V G hW (ci := 11) (n := 1) (As := [.int (I a0 11)]) (rest := []) (c_X10_byteAt K hW l a0 (I a0 11) ka0 I J B _ h) ka0 (by decide) rfl ml_X10_304 im_X10_byteAt se_X10_byteAt in_X10 co_X10_byteAt rfl (by decide +kernel) rfl rfl (by decide) (by decide) rfl rfl (Nat.le_of_ble_eq_true rfl) dX10_takesToken_187) (fun r25 _ h => ?_)
  refine j_ci (rn_S G (n := 1) (As := [.int r25]) (rest := []) (c_X10_isDigit K hW l r25 I J B _ h) ml_X10_320 st_X10_isDigit in_X10 co_X10_isDigit (by decide +kernel) rfl rfl (by decide) (by decide) rfl rfl (Nat.le_of_ble_eq_true rfl) dX10_takesToken_190) (fun r26 _ h => ?_)
  refine j_if_eq G 255 dX10_takesToken_193 (by decide) (fun c27 => ?_) (fun c27 => ?_)
  · have h := h.1 c27
    exact hke255 I J h
  · have h := h.2 c27
    refine j_aload_n G 0 0 dX10_takesToken_196 rfl rfl ?_
    refine j_aload_n G 0 0 dX10_takesToken_197 rfl rfl ?_
    refine j_get G hW 11 11 0 (.int (I a0 11)) ka0 (by decide) rfl (by decide) rfl lay_X10 fl_X10_301 rfl rfl dX10_takesToken_198 ?_
    refine j_aload_n G 0 0 dX10_takesToken_201 rfl rfl ?_
    refine j_get G hW 11 13 0 (.int (I a0 13)) ka0 (by decide) rfl (by decide) rfl lay_X10 fl_X10_307 rfl rfl dX10_takesToken_202 ?_
    refine j_isub G dX10_takesToken_205 ?_
    refine j_iconst G (3 : Int32) dX10_takesToken_206 (by decide) ?_
    refine j_icmp_ge G 235 dX10_takesToken_207 (by decide) (fun c28 => ?_) (fun c28 => ?_)
    · have h := h.1 c28
      refine j_aload_n G 0 0 dX10_takesToken_235 rfl rfl ?_
      refine j_get G hW 11 17 1 (.long (J a0 17)) ka0 (by decide) rfl (by decide) rfl lay_X10 fl_X10_310 rfl rfl dX10_takesToken_236 ?_
      refine j_putL G hW 11 17 tyX10 tyX10_ok nmX10 ka0 (by decide) rfl (by decide) rfl lay_X10 fl_X10_310 rfl rfl (tyX10_ok 17 (by decide)) dX10_takesToken_239 ?_
      refine j_mJ (fun J29 eJ29 => ?_)
      have h := h J29 eJ29
      refine j_aload_n G 0 0 dX10_takesToken_242 rfl rfl ?_
      refine j_dup G rfl dX10_takesToken_243 ?_
      refine j_get G hW 11 11 0 (.int (I a0 11)) ka0 (by decide) rfl (by decide) rfl lay_X10 fl_X10_301 rfl rfl dX10_takesToken_244 ?_
      refine j_iconst G (1 : Int32) dX10_takesToken_247 (by decide) ?_
      refine j_iadd G dX10_takesToken_248 ?_
      refine j_put G hW 11 11 tyX10 (tyX10 11) tyX10_ok nmX10 ka0 (by decide) rfl (by decide) rfl lay_X10 fl_X10_301 rfl rfl (tyX10_ok 11 (by decide)) rfl rfl dX10_takesToken_249 ?_
      refine j_mI (fun I30 eI30 => ?_)
      have h := h I30 eI30
      refine j_goto G 182 dX10_takesToken_252 (by decide) ?_
      exact hrec I30 J29 h
    · have h := h.2 c28
      refine j_ldc2 G (10 : Int64) cl_X10_323 dX10_takesToken_210 ?_
      refine j_aload_n G 0 0 dX10_takesToken_213 rfl rfl ?_
      refine j_get G hW 11 17 1 (.long (J a0 17)) ka0 (by decide) rfl (by decide) rfl lay_X10 fl_X10_310 rfl rfl dX10_takesToken_214 ?_
      refine j_lmul G dX10_takesToken_217 ?_
      refine j_aload_n G 0 0 dX10_takesToken_218 rfl rfl ?_
      refine j_aload_n G 0 0 dX10_takesToken_219 rfl rfl ?_
      refine j_get G hW 11 11 0 (.int (I a0 11)) ka0 (by decide) rfl (by decide) rfl lay_X10 fl_X10_301 rfl rfl dX10_takesToken_220 ?_
      refine j_ci (rn_V G hW (ci := 11) (n := 1) (As := [.int (I a0 11)]) (rest := [.long ((10 : Int64) * (J a0 17)), .ref a0]) (c_X10_byteAt K hW l a0 (I a0 11) ka0 I J B _ h) ka0 (by decide) rfl ml_X10_304 im_X10_byteAt se_X10_byteAt in_X10 co_X10_byteAt rfl (by decide +kernel) rfl rfl (by decide) (by decide) rfl rfl (Nat.le_of_ble_eq_true rfl) dX10_takesToken_223) (fun r31 _ h => ?_)
      refine j_i2l G dX10_takesToken_226 ?_
      refine j_ladd G dX10_takesToken_227 ?_
      refine j_ldc2 G (48 : Int64) cl_X10_325 dX10_takesToken_228 ?_
      refine j_lsub G dX10_takesToken_231 ?_
      refine j_goto G 239 dX10_takesToken_232 (by decide) ?_
      refine j_putL G hW 11 17 tyX10 tyX10_ok nmX10 ka0 (by decide) rfl (by decide) rfl lay_X10 fl_X10_310 rfl rfl (tyX10_ok 17 (by decide)) dX10_takesToken_239 ?_
      refine j_mJ (fun J32 eJ32 => ?_)
      have h := h J32 eJ32
      refine j_aload_n G 0 0 dX10_takesToken_242 rfl rfl ?_
      refine j_dup G rfl dX10_takesToken_243 ?_
      refine j_get G hW 11 11 0 (.int (I a0 11)) ka0 (by decide) rfl (by decide) rfl lay_X10 fl_X10_301 rfl rfl dX10_takesToken_244 ?_
      refine j_iconst G (1 : Int32) dX10_takesToken_247 (by decide) ?_
      refine j_iadd G dX10_takesToken_248 ?_
      refine j_put G hW 11 11 tyX10 (tyX10 11) tyX10_ok nmX10 ka0 (by decide) rfl (by decide) rfl lay_X10 fl_X10_301 rfl rfl (tyX10_ok 11 (by decide)) rfl rfl dX10_takesToken_249 ?_
      refine j_mI (fun I33 eI33 => ?_)
      have h := h I33 eI33
      refine j_goto G 182 dX10_takesToken_252 (by decide) ?_
      exact hrec I33 J32 h
def w_X10_takesToken_l80 (a0 : Nat)  (ke149 : MI → MJ → Prop) (Q : MI → MJ → Prop) (rec : MI → MJ → Prop) (I : MI) (J : MJ) : Prop :=
(w_X10_byteAt a0 (I a0 11) I (fun r39 =>
(w_X10_isLetter r39 (fun r40 =>
((r40 = 0 → ke149 I J) ∧
(¬ r40 = 0 → (((8 : Int32) ≤ ((I a0 11) - (I a0 13)) → (∀ J43, J43 = uj J a0 17 (J a0 17) →
(∀ I44, I44 = ui I a0 11 ((I a0 11) + (1 : Int32)) →
rec I44 J43))) ∧
(¬ (8 : Int32) ≤ ((I a0 11) - (I a0 13)) → (w_X10_byteAt a0 (I a0 11) I (fun r45 =>
(∀ J46, J46 = uj J a0 17 (((J a0 17) <<< (Int32.toInt64 (8 : Int32) &&& 63)) ||| (Int32.toInt64 r45)) →
(∀ I47, I47 = ui I a0 11 ((I a0 11) + (1 : Int32)) →
rec I47 J46))))))))))))
set_option maxHeartbeats 4000000 in
set_option maxRecDepth 100000 in
theorem m_X10_takesToken_l80 {K : Kx} {l : Launch} {m : MethodId} {H0 : Heap} {Q : MI → MJ → Prop} {w : HW} {B : MR} (G : Gd l rm_X10_takesToken K m RX10 cX10_takesToken 2 H0 none (va_Qv (S := (MI × MJ)) (fun u => Q u.1 u.2) (fun u t => HP K (u.1, u.2, B) t.heap) (AA K)) w) (hW : WFK K) (a0 : Nat) (ka0 : (kG K a0).1 = 12) (I : MI) (J : MJ) (ke149 : MI → MJ → Prop) (hke149 : ∀ (I : MI) (J : MJ), ke149 I J → Jg K m 2 H0 w 149 [(0, .ref a0)] [] (I, J, B)) (h : Lp2 (w_X10_takesToken_l80 a0 ke149 Q) I J) : Jg K m 2 H0 w 80 [(0, .ref a0)] [] (I, J, B) := by
  obtain ⟨n, h⟩ := h
  refine lpN2_ind (P := (fun (I : MI) (J : MJ) => Jg K m 2 H0 w 80 [(0, .ref a0)] [] (I, J, B))) (fun rec hrec I J h => ?_) n I J h
  unfold w_X10_takesToken_l80 at h
  refine j_aload_n G 0 0 dX10_takesToken_80 rfl rfl ?_
  refine j_aload_n G 0 0 dX10_takesToken_81 rfl rfl ?_
  refine j_get G hW 11 11 0 (.int (I a0 11)) ka0 (by decide) rfl (by decide) rfl lay_X10 fl_X10_301 rfl rfl dX10_takesToken_82 ?_
  refine j_ci (rn_V G hW (ci := 11) (n := 1) (As := [.int (I a0 11)]) (rest := []) (c_X10_byteAt K hW l a0 (I a0 11) ka0 I J B _ h) ka0 (by decide) rfl ml_X10_304 im_X10_byteAt se_X10_byteAt in_X10 co_X10_byteAt rfl (by decide +kernel) rfl rfl (by decide) (by decide) rfl rfl (Nat.le_of_ble_eq_true rfl) dX10_takesToken_85) (fun r39 _ h => ?_)
  refine j_ci (rn_S G (n := 1) (As := [.int r39]) (rest := []) (c_X10_isLetter K hW l r39 I J B _ h) ml_X10_317 st_X10_isLetter in_X10 co_X10_isLetter (by decide +kernel) rfl rfl (by decide) (by decide) rfl rfl (Nat.le_of_ble_eq_true rfl) dX10_takesToken_88) (fun r40 _ h => ?_)
  refine j_if_eq G 149 dX10_takesToken_91 (by decide) (fun c41 => ?_) (fun c41 => ?_)
  · have h := h.1 c41
    exact hke149 I J h
  · have h := h.2 c41
    refine j_aload_n G 0 0 dX10_takesToken_94 rfl rfl ?_
    refine j_aload_n G 0 0 dX10_takesToken_95 rfl rfl ?_
    refine j_get G hW 11 11 0 (.int (I a0 11)) ka0 (by decide) rfl (by decide) rfl lay_X10 fl_X10_301 rfl rfl dX10_takesToken_96 ?_
    refine j_aload_n G 0 0 dX10_takesToken_99 rfl rfl ?_
    refine j_get G hW 11 13 0 (.int (I a0 13)) ka0 (by decide) rfl (by decide) rfl lay_X10 fl_X10_307 rfl rfl dX10_takesToken_100 ?_
    refine j_isub G dX10_takesToken_103 ?_
    refine j_bipush G (8 : Int32) dX10_takesToken_104 (by decide) ?_
    refine j_icmp_ge G 129 dX10_takesToken_106 (by decide) (fun c42 => ?_) (fun c42 => ?_)
    · have h := h.1 c42
      refine j_aload_n G 0 0 dX10_takesToken_129 rfl rfl ?_
      refine j_get G hW 11 17 1 (.long (J a0 17)) ka0 (by decide) rfl (by decide) rfl lay_X10 fl_X10_310 rfl rfl dX10_takesToken_130 ?_
      refine j_putL G hW 11 17 tyX10 tyX10_ok nmX10 ka0 (by decide) rfl (by decide) rfl lay_X10 fl_X10_310 rfl rfl (tyX10_ok 17 (by decide)) dX10_takesToken_133 ?_
      refine j_mJ (fun J43 eJ43 => ?_)
      have h := h J43 eJ43
      refine j_aload_n G 0 0 dX10_takesToken_136 rfl rfl ?_
      refine j_dup G rfl dX10_takesToken_137 ?_
      refine j_get G hW 11 11 0 (.int (I a0 11)) ka0 (by decide) rfl (by decide) rfl lay_X10 fl_X10_301 rfl rfl dX10_takesToken_138 ?_
      refine j_iconst G (1 : Int32) dX10_takesToken_141 (by decide) ?_
      refine j_iadd G dX10_takesToken_142 ?_
      refine j_put G hW 11 11 tyX10 (tyX10 11) tyX10_ok nmX10 ka0 (by decide) rfl (by decide) rfl lay_X10 fl_X10_301 rfl rfl (tyX10_ok 11 (by decide)) rfl rfl dX10_takesToken_143 ?_
      refine j_mI (fun I44 eI44 => ?_)
      have h := h I44 eI44
      refine j_goto G 80 dX10_takesToken_146 (by decide) ?_
      exact hrec I44 J43 h
    · have h := h.2 c42
      refine j_aload_n G 0 0 dX10_takesToken_109 rfl rfl ?_
      refine j_get G hW 11 17 1 (.long (J a0 17)) ka0 (by decide) rfl (by decide) rfl lay_X10 fl_X10_310 rfl rfl dX10_takesToken_110 ?_
      refine j_bipush G (8 : Int32) dX10_takesToken_113 (by decide) ?_
      refine j_lshl G dX10_takesToken_115 ?_
      refine j_aload_n G 0 0 dX10_takesToken_116 rfl rfl ?_
      refine j_aload_n G 0 0 dX10_takesToken_117 rfl rfl ?_
      refine j_get G hW 11 11 0 (.int (I a0 11)) ka0 (by decide) rfl (by decide) rfl lay_X10 fl_X10_301 rfl rfl dX10_takesToken_118 ?_
      refine j_ci (rn_V G hW (ci := 11) (n := 1) (As := [.int (I a0 11)]) (rest := [.long ((J a0 17) <<< (Int32.toInt64 (8 : Int32) &&& 63)), .ref a0]) (c_X10_byteAt K hW l a0 (I a0 11) ka0 I J B _ h) ka0 (by decide) rfl ml_X10_304 im_X10_byteAt se_X10_byteAt in_X10 co_X10_byteAt rfl (by decide +kernel) rfl rfl (by decide) (by decide) rfl rfl (Nat.le_of_ble_eq_true rfl) dX10_takesToken_121) (fun r45 _ h => ?_)
      refine j_i2l G dX10_takesToken_124 ?_
      refine j_lor G dX10_takesToken_125 ?_
      refine j_goto G 133 dX10_takesToken_126 (by decide) ?_
      refine j_putL G hW 11 17 tyX10 tyX10_ok nmX10 ka0 (by decide) rfl (by decide) rfl lay_X10 fl_X10_310 rfl rfl (tyX10_ok 17 (by decide)) dX10_takesToken_133 ?_
      refine j_mJ (fun J46 eJ46 => ?_)
      have h := h J46 eJ46
      refine j_aload_n G 0 0 dX10_takesToken_136 rfl rfl ?_
      refine j_dup G rfl dX10_takesToken_137 ?_
      refine j_get G hW 11 11 0 (.int (I a0 11)) ka0 (by decide) rfl (by decide) rfl lay_X10 fl_X10_301 rfl rfl dX10_takesToken_138 ?_
      refine j_iconst G (1 : Int32) dX10_takesToken_141 (by decide) ?_
      refine j_iadd G dX10_takesToken_142 ?_
      refine j_put G hW 11 11 tyX10 (tyX10 11) tyX10_ok nmX10 ka0 (by decide) rfl (by decide) rfl lay_X10 fl_X10_301 rfl rfl (tyX10_ok 11 (by decide)) rfl rfl dX10_takesToken_143 ?_
      refine j_mI (fun I47 eI47 => ?_)
      have h := h I47 eI47
      refine j_goto G 80 dX10_takesToken_146 (by decide) ?_
      exact hrec I47 J46 h
def w_X10_takesToken (a0 : Nat) (I : MI) (J : MJ) (Q : MI → MJ → Prop) : Prop :=
Lp1 (w_X10_takesToken_l0 a0 J (fun I7 => (∀ I8, I8 = ui I7 a0 13 (I7 a0 11) →
(w_X10_byteAt a0 (I8 a0 11) I8 (fun r9 =>
(∀ J10, J10 = uj J a0 17 (0 : Int64) →
((0 ≤ r9 → (w_X10_isLetter r9 (fun r12 =>
((r12 = 0 → (w_X10_isDigit r9 (fun r14 =>
((r14 = 0 → (∀ I16, I16 = ui I8 a0 11 ((I8 a0 11) + (1 : Int32)) →
(∀ J17, J17 = uj J10 a0 17 (Int32.toInt64 r9) →
((r9 = (59 : Int32) → w_X10_takesToken_p327 a0 I16 J17 Q) ∧
(¬ r9 = (59 : Int32) → ((r9 = (58 : Int32) → w_X10_takesToken_p327 a0 I16 J17 Q) ∧
(¬ r9 = (58 : Int32) → ((r9 = (60 : Int32) → w_X10_takesToken_p327 a0 I16 J17 Q) ∧
(¬ r9 = (60 : Int32) → ((r9 = (61 : Int32) → w_X10_takesToken_p327 a0 I16 J17 Q) ∧
(¬ r9 = (61 : Int32) → ((¬ r9 = (62 : Int32) → (∀ I24, I24 = ui I16 a0 12 (4 : Int32) →
Q I24 J17)) ∧
(r9 = (62 : Int32) → w_X10_takesToken_p327 a0 I16 J17 Q))))))))))))) ∧
(¬ r14 = 0 → Lp2 (w_X10_takesToken_l182 a0 (fun I34 J35 => ((((I34 a0 11) - (I34 a0 13)) ≤ (3 : Int32) → (∀ I37, I37 = ui I34 a0 12 (2 : Int32) →
Q I37 J35)) ∧
(¬ ((I34 a0 11) - (I34 a0 13)) ≤ (3 : Int32) → (∀ I38, I38 = ui I34 a0 12 (4 : Int32) →
Q I38 J35)))) Q) I8 J10))))) ∧
(¬ r12 = 0 → Lp2 (w_X10_takesToken_l80 a0 (fun I48 J49 => ((((I48 a0 11) - (I48 a0 13)) ≤ (8 : Int32) → (∀ I51, I51 = ui I48 a0 12 (1 : Int32) →
Q I51 J49)) ∧
(¬ ((I48 a0 11) - (I48 a0 13)) ≤ (8 : Int32) → (∀ I52, I52 = ui I48 a0 12 (4 : Int32) →
Q I52 J49)))) Q) I8 J10))))) ∧
(¬ 0 ≤ r9 → (∀ I53, I53 = ui I8 a0 12 (0 : Int32) →
Q I53 J10)))))))) Q) I
set_option maxHeartbeats 4000000 in
set_option maxRecDepth 100000 in
theorem c_X10_takesToken (K : Kx) (hW : WFK K) (l : Launch) (a0 : Nat) (k0 : (kG K a0).1 = 12) (I : MI) (J : MJ) (B : MR) (Q : MI → MJ → Prop) (h : w_X10_takesToken a0 I J Q) : Con K l yX10_takesToken (wsT yX10_takesToken cX10_takesToken 2 none) rm_X10_takesToken [.ref a0] (I, J, B) (va_Qv (S := (MI × MJ)) (fun u => Q u.1 u.2) (fun u t => HP K (u.1, u.2, B) t.heap) (AA K)) := by
  refine Con.ofJ RX10 rfl (by decide) (Nat.le_of_ble_eq_true rfl) (fun m H0 w G => ?_)
  unfold w_X10_takesToken at h
  show Jg K m 2 H0 w 0 [(0, .ref a0)] [] (I, J, B)
  refine Jg.sub [0] rfl (m_X10_takesToken_l0 G hW a0 k0 I J _ ?_ h)
  intro I7 h
  refine j_aload_n G 0 0 dX10_takesToken_39 rfl rfl ?_
  refine j_aload_n G 0 0 dX10_takesToken_40 rfl rfl ?_
  refine j_get G hW 11 11 0 (.int (I7 a0 11)) k0 (by decide) rfl (by decide) rfl lay_X10 fl_X10_301 rfl rfl dX10_takesToken_41 ?_
  refine j_put G hW 11 13 tyX10 (tyX10 13) tyX10_ok nmX10 k0 (by decide) rfl (by decide) rfl lay_X10 fl_X10_307 rfl rfl (tyX10_ok 13 (by decide)) rfl rfl dX10_takesToken_44 ?_
  refine j_mI (fun I8 eI8 => ?_)
  have h := h I8 eI8
  refine j_aload_n G 0 0 dX10_takesToken_47 rfl rfl ?_
  refine j_aload_n G 0 0 dX10_takesToken_48 rfl rfl ?_
  refine j_get G hW 11 11 0 (.int (I8 a0 11)) k0 (by decide) rfl (by decide) rfl lay_X10 fl_X10_301 rfl rfl dX10_takesToken_49 ?_
  refine j_ci (rn_V G hW (ci := 11) (n := 1) (As := [.int (I8 a0 11)]) (rest := []) (c_X10_byteAt K hW l a0 (I8 a0 11) k0 I8 J B _ h) k0 (by decide) rfl ml_X10_304 im_X10_byteAt se_X10_byteAt in_X10 co_X10_byteAt rfl (by decide +kernel) rfl rfl (by decide) (by decide) rfl rfl (Nat.le_of_ble_eq_true rfl) dX10_takesToken_52) (fun r9 _ h => ?_)
  refine j_istore_n G 1 [(1, .int r9), (0, .ref a0)] dX10_takesToken_55 rfl (by decide) rfl ?_
  refine j_aload_n G 1 0 dX10_takesToken_56 rfl rfl ?_
  refine j_lconst G (0 : Int64) dX10_takesToken_57 (by decide) ?_
  refine j_putL G hW 11 17 tyX10 tyX10_ok nmX10 k0 (by decide) rfl (by decide) rfl lay_X10 fl_X10_310 rfl rfl (tyX10_ok 17 (by decide)) dX10_takesToken_58 ?_
  refine j_mJ (fun J10 eJ10 => ?_)
  have h := h J10 eJ10
  refine j_iload_n G 0 1 dX10_takesToken_61 rfl rfl ?_
  refine j_if_ge G 73 dX10_takesToken_62 (by decide) (fun c11 => ?_) (fun c11 => ?_)
  · have h := h.1 c11
    refine j_iload_n G 0 1 dX10_takesToken_73 rfl rfl ?_
    refine j_ci (rn_S G (n := 1) (As := [.int r9]) (rest := []) (c_X10_isLetter K hW l r9 I8 J10 B _ h) ml_X10_317 st_X10_isLetter in_X10 co_X10_isLetter (by decide +kernel) rfl rfl (by decide) (by decide) rfl rfl (Nat.le_of_ble_eq_true rfl) dX10_takesToken_74) (fun r12 _ h => ?_)
    refine j_if_eq G 175 dX10_takesToken_77 (by decide) (fun c13 => ?_) (fun c13 => ?_)
    · have h := h.1 c13
      refine j_iload_n G 0 1 dX10_takesToken_175 rfl rfl ?_
      refine j_ci (rn_S G (n := 1) (As := [.int r9]) (rest := []) (c_X10_isDigit K hW l r9 I8 J10 B _ h) ml_X10_320 st_X10_isDigit in_X10 co_X10_isDigit (by decide +kernel) rfl rfl (by decide) (by decide) rfl rfl (Nat.le_of_ble_eq_true rfl) dX10_takesToken_176) (fun r14 _ h => ?_)
      refine j_if_eq G 280 dX10_takesToken_179 (by decide) (fun c15 => ?_) (fun c15 => ?_)
      · have h := h.1 c15
        refine j_aload_n G 1 0 dX10_takesToken_280 rfl rfl ?_
        refine j_dup G rfl dX10_takesToken_281 ?_
        refine j_get G hW 11 11 0 (.int (I8 a0 11)) k0 (by decide) rfl (by decide) rfl lay_X10 fl_X10_301 rfl rfl dX10_takesToken_282 ?_
        refine j_iconst G (1 : Int32) dX10_takesToken_285 (by decide) ?_
        refine j_iadd G dX10_takesToken_286 ?_
        refine j_put G hW 11 11 tyX10 (tyX10 11) tyX10_ok nmX10 k0 (by decide) rfl (by decide) rfl lay_X10 fl_X10_301 rfl rfl (tyX10_ok 11 (by decide)) rfl rfl dX10_takesToken_287 ?_
        refine j_mI (fun I16 eI16 => ?_)
        have h := h I16 eI16
        refine j_aload_n G 1 0 dX10_takesToken_290 rfl rfl ?_
        refine j_iload_n G 0 1 dX10_takesToken_291 rfl rfl ?_
        refine j_i2l G dX10_takesToken_292 ?_
        refine j_putL G hW 11 17 tyX10 tyX10_ok nmX10 k0 (by decide) rfl (by decide) rfl lay_X10 fl_X10_310 rfl rfl (tyX10_ok 17 (by decide)) dX10_takesToken_293 ?_
        refine j_mJ (fun J17 eJ17 => ?_)
        have h := h J17 eJ17
        refine j_aload_n G 1 0 dX10_takesToken_296 rfl rfl ?_
        refine j_iload_n G 0 1 dX10_takesToken_297 rfl rfl ?_
        refine j_bipush G (59 : Int32) dX10_takesToken_298 (by decide) ?_
        refine j_icmp_eq G 327 dX10_takesToken_300 (by decide) (fun c18 => ?_) (fun c18 => ?_)
        · have h := h.1 c18
          exact Jg.sub [] rfl (m_X10_takesToken_p327 G hW a0 k0 I16 J17 h)
        · have h := h.2 c18
          refine j_iload_n G 0 1 dX10_takesToken_303 rfl rfl ?_
          refine j_bipush G (58 : Int32) dX10_takesToken_304 (by decide) ?_
          refine j_icmp_eq G 327 dX10_takesToken_306 (by decide) (fun c20 => ?_) (fun c20 => ?_)
          · have h := h.1 c20
            exact Jg.sub [] rfl (m_X10_takesToken_p327 G hW a0 k0 I16 J17 h)
          · have h := h.2 c20
            refine j_iload_n G 0 1 dX10_takesToken_309 rfl rfl ?_
            refine j_bipush G (60 : Int32) dX10_takesToken_310 (by decide) ?_
            refine j_icmp_eq G 327 dX10_takesToken_312 (by decide) (fun c21 => ?_) (fun c21 => ?_)
            · have h := h.1 c21
              exact Jg.sub [] rfl (m_X10_takesToken_p327 G hW a0 k0 I16 J17 h)
            · have h := h.2 c21
              refine j_iload_n G 0 1 dX10_takesToken_315 rfl rfl ?_
              refine j_bipush G (61 : Int32) dX10_takesToken_316 (by decide) ?_
              refine j_icmp_eq G 327 dX10_takesToken_318 (by decide) (fun c22 => ?_) (fun c22 => ?_)
              · have h := h.1 c22
                exact Jg.sub [] rfl (m_X10_takesToken_p327 G hW a0 k0 I16 J17 h)
              · have h := h.2 c22
                refine j_iload_n G 0 1 dX10_takesToken_321 rfl rfl ?_
                refine j_bipush G (62 : Int32) dX10_takesToken_322 (by decide) ?_
                refine j_icmp_ne G 331 dX10_takesToken_324 (by decide) (fun c23 => ?_) (fun c23 => ?_)
                · have h := h.1 c23
                  refine j_iconst G (4 : Int32) dX10_takesToken_331 (by decide) ?_
                  refine j_put G hW 11 12 tyX10 (tyX10 12) tyX10_ok nmX10 k0 (by decide) rfl (by decide) rfl lay_X10 fl_X10_314 rfl rfl (tyX10_ok 12 (by decide)) rfl rfl dX10_takesToken_332 ?_
                  refine j_mI (fun I24 eI24 => ?_)
                  have h := h I24 eI24
                  exact j_retv G (I24, J17) dX10_takesToken_335 h rfl
                · have h := h.2 c23
                  exact Jg.sub [] rfl (m_X10_takesToken_p327 G hW a0 k0 I16 J17 h)
      · have h := h.2 c15
        refine Jg.sub [1] rfl (m_X10_takesToken_l182 G hW a0 k0 I8 J10 _ ?_ h)
        intro I34 J35 h
        refine j_aload_n G 0 0 dX10_takesToken_255 rfl rfl ?_
        refine j_aload_n G 0 0 dX10_takesToken_256 rfl rfl ?_
        refine j_get G hW 11 11 0 (.int (I34 a0 11)) k0 (by decide) rfl (by decide) rfl lay_X10 fl_X10_301 rfl rfl dX10_takesToken_257 ?_
        refine j_aload_n G 0 0 dX10_takesToken_260 rfl rfl ?_
        refine j_get G hW 11 13 0 (.int (I34 a0 13)) k0 (by decide) rfl (by decide) rfl lay_X10 fl_X10_307 rfl rfl dX10_takesToken_261 ?_
        refine j_isub G dX10_takesToken_264 ?_
        refine j_iconst G (3 : Int32) dX10_takesToken_265 (by decide) ?_
        refine j_icmp_le G 273 dX10_takesToken_266 (by decide) (fun c36 => ?_) (fun c36 => ?_)
        · have h := h.1 c36
          refine j_iconst G (2 : Int32) dX10_takesToken_273 (by decide) ?_
          refine j_put G hW 11 12 tyX10 (tyX10 12) tyX10_ok nmX10 k0 (by decide) rfl (by decide) rfl lay_X10 fl_X10_314 rfl rfl (tyX10_ok 12 (by decide)) rfl rfl dX10_takesToken_274 ?_
          refine j_mI (fun I37 eI37 => ?_)
          have h := h I37 eI37
          refine j_goto G 335 dX10_takesToken_277 (by decide) ?_
          exact j_retv G (I37, J35) dX10_takesToken_335 h rfl
        · have h := h.2 c36
          refine j_iconst G (4 : Int32) dX10_takesToken_269 (by decide) ?_
          refine j_goto G 274 dX10_takesToken_270 (by decide) ?_
          refine j_put G hW 11 12 tyX10 (tyX10 12) tyX10_ok nmX10 k0 (by decide) rfl (by decide) rfl lay_X10 fl_X10_314 rfl rfl (tyX10_ok 12 (by decide)) rfl rfl dX10_takesToken_274 ?_
          refine j_mI (fun I38 eI38 => ?_)
          have h := h I38 eI38
          refine j_goto G 335 dX10_takesToken_277 (by decide) ?_
          exact j_retv G (I38, J35) dX10_takesToken_335 h rfl
    · have h := h.2 c13
      refine Jg.sub [1] rfl (m_X10_takesToken_l80 G hW a0 k0 I8 J10 _ ?_ h)
      intro I48 J49 h
      refine j_aload_n G 0 0 dX10_takesToken_149 rfl rfl ?_
      refine j_aload_n G 0 0 dX10_takesToken_150 rfl rfl ?_
      refine j_get G hW 11 11 0 (.int (I48 a0 11)) k0 (by decide) rfl (by decide) rfl lay_X10 fl_X10_301 rfl rfl dX10_takesToken_151 ?_
      refine j_aload_n G 0 0 dX10_takesToken_154 rfl rfl ?_
      refine j_get G hW 11 13 0 (.int (I48 a0 13)) k0 (by decide) rfl (by decide) rfl lay_X10 fl_X10_307 rfl rfl dX10_takesToken_155 ?_
      refine j_isub G dX10_takesToken_158 ?_
      refine j_bipush G (8 : Int32) dX10_takesToken_159 (by decide) ?_
      refine j_icmp_le G 168 dX10_takesToken_161 (by decide) (fun c50 => ?_) (fun c50 => ?_)
      · have h := h.1 c50
        refine j_iconst G (1 : Int32) dX10_takesToken_168 (by decide) ?_
        refine j_put G hW 11 12 tyX10 (tyX10 12) tyX10_ok nmX10 k0 (by decide) rfl (by decide) rfl lay_X10 fl_X10_314 rfl rfl (tyX10_ok 12 (by decide)) rfl rfl dX10_takesToken_169 ?_
        refine j_mI (fun I51 eI51 => ?_)
        have h := h I51 eI51
        refine j_goto G 335 dX10_takesToken_172 (by decide) ?_
        exact j_retv G (I51, J49) dX10_takesToken_335 h rfl
      · have h := h.2 c50
        refine j_iconst G (4 : Int32) dX10_takesToken_164 (by decide) ?_
        refine j_goto G 169 dX10_takesToken_165 (by decide) ?_
        refine j_put G hW 11 12 tyX10 (tyX10 12) tyX10_ok nmX10 k0 (by decide) rfl (by decide) rfl lay_X10 fl_X10_314 rfl rfl (tyX10_ok 12 (by decide)) rfl rfl dX10_takesToken_169 ?_
        refine j_mI (fun I52 eI52 => ?_)
        have h := h I52 eI52
        refine j_goto G 335 dX10_takesToken_172 (by decide) ?_
        exact j_retv G (I52, J49) dX10_takesToken_335 h rfl
  · have h := h.2 c11
    refine j_aload_n G 1 0 dX10_takesToken_65 rfl rfl ?_
    refine j_iconst G (0 : Int32) dX10_takesToken_66 (by decide) ?_
    refine j_put G hW 11 12 tyX10 (tyX10 12) tyX10_ok nmX10 k0 (by decide) rfl (by decide) rfl lay_X10 fl_X10_314 rfl rfl (tyX10_ok 12 (by decide)) rfl rfl dX10_takesToken_67 ?_
    refine j_mI (fun I53 eI53 => ?_)
    have h := h I53 eI53
    refine j_goto G 335 dX10_takesToken_70 (by decide) ?_
    exact j_retv G (I53, J10) dX10_takesToken_335 h rfl
